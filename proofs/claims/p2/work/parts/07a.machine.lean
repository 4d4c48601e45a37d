theorem q50 : Cond.selects RX4 yX4_word yX4_word ∈ gw := gw_in (i := 50) (by decide +kernel) rfl
theorem q51 : Cond.selects RX4 yX4_putWord yX4_putWord ∈ gw := gw_in (i := 51) (by decide +kernel) rfl
theorem q52 : Cond.selects RX4 yX4_fetch yX4_fetch ∈ gw := gw_in (i := 52) (by decide +kernel) rfl
theorem q159 : Cond.initialized RX4 ∈ gw := gw_in (i := 159) (by decide +kernel) rfl
theorem q552 : Cond.fieldLink RX4 9 "SegmentBench$Machine" "cells" "[I" ∈ gw := gw_in (i := 552) (by decide +kernel) rfl
theorem q554 : Cond.fieldLink RX4 13 "SegmentBench$Machine" "general" "[I" ∈ gw := gw_in (i := 554) (by decide +kernel) rfl
theorem q556 : Cond.fieldLink RX4 16 "SegmentBench$Machine" "segment" "[I" ∈ gw := gw_in (i := 556) (by decide +kernel) rfl
theorem q558 : Cond.fieldLink RX4 26 "SegmentBench$Machine" "ip" "I" ∈ gw := gw_in (i := 558) (by decide +kernel) rfl
theorem q1375 : Cond.methodLink RX4 74 yX4_word ∈ gw := gw_in (i := 1375) (by decide +kernel) rfl
theorem q1377 : Cond.instanceMethod yX4_word ∈ gw := gw_in (i := 1377) (by decide +kernel) rfl
theorem q1378 : Cond.code yX4_word cX4_word 2 (some .int) ∈ gw := gw_in (i := 1378) (by decide +kernel) rfl
theorem q1379 : Cond.methodLink RX4 78 yX4_putWord ∈ gw := gw_in (i := 1379) (by decide +kernel) rfl
theorem q1381 : Cond.instanceMethod yX4_putWord ∈ gw := gw_in (i := 1381) (by decide +kernel) rfl
theorem q1382 : Cond.code yX4_putWord cX4_putWord 3 none ∈ gw := gw_in (i := 1382) (by decide +kernel) rfl
theorem q1396 : Cond.methodLink RX4 88 yX4_fetch ∈ gw := gw_in (i := 1396) (by decide +kernel) rfl
theorem q1398 : Cond.instanceMethod yX4_fetch ∈ gw := gw_in (i := 1398) (by decide +kernel) rfl
theorem q1399 : Cond.code yX4_fetch cX4_fetch 2 (some .int) ∈ gw := gw_in (i := 1399) (by decide +kernel) rfl
theorem q1400 : Cond.constant RX4 95 (65535) ∈ gw := gw_in (i := 1400) (by decide +kernel) rfl
theorem dX4_word_0 : decode cX4_word 0 = .ok (.aload_n 0, 1) := by decide +kernel
theorem dX4_word_1 : decode cX4_word 1 = .ok (.getfield 9, 3) := by decide +kernel
theorem dX4_word_4 : decode cX4_word 4 = .ok (.iload_n 1, 1) := by decide +kernel
theorem dX4_word_5 : decode cX4_word 5 = .ok (.sipush 4095, 3) := by decide +kernel
theorem dX4_word_8 : decode cX4_word 8 = .ok (.iand, 1) := by decide +kernel
theorem dX4_word_9 : decode cX4_word 9 = .ok (.iaload, 1) := by decide +kernel
theorem dX4_word_10 : decode cX4_word 10 = .ok (.sipush 256, 3) := by decide +kernel
theorem dX4_word_13 : decode cX4_word 13 = .ok (.aload_n 0, 1) := by decide +kernel
theorem dX4_word_14 : decode cX4_word 14 = .ok (.getfield 9, 3) := by decide +kernel
theorem dX4_word_17 : decode cX4_word 17 = .ok (.iload_n 1, 1) := by decide +kernel
theorem dX4_word_18 : decode cX4_word 18 = .ok (.iconst 1, 1) := by decide +kernel
theorem dX4_word_19 : decode cX4_word 19 = .ok (.iadd, 1) := by decide +kernel
theorem dX4_word_20 : decode cX4_word 20 = .ok (.sipush 4095, 3) := by decide +kernel
theorem dX4_word_23 : decode cX4_word 23 = .ok (.iand, 1) := by decide +kernel
theorem dX4_word_24 : decode cX4_word 24 = .ok (.iaload, 1) := by decide +kernel
theorem dX4_word_25 : decode cX4_word 25 = .ok (.imul, 1) := by decide +kernel
theorem dX4_word_26 : decode cX4_word 26 = .ok (.iadd, 1) := by decide +kernel
theorem dX4_word_27 : decode cX4_word 27 = .ok (.ireturn, 1) := by decide +kernel
theorem dX4_putWord_0 : decode cX4_putWord 0 = .ok (.aload_n 0, 1) := by decide +kernel
theorem dX4_putWord_1 : decode cX4_putWord 1 = .ok (.getfield 9, 3) := by decide +kernel
theorem dX4_putWord_4 : decode cX4_putWord 4 = .ok (.iload_n 1, 1) := by decide +kernel
theorem dX4_putWord_5 : decode cX4_putWord 5 = .ok (.sipush 4095, 3) := by decide +kernel
theorem dX4_putWord_8 : decode cX4_putWord 8 = .ok (.iand, 1) := by decide +kernel
theorem dX4_putWord_9 : decode cX4_putWord 9 = .ok (.iload_n 2, 1) := by decide +kernel
theorem dX4_putWord_10 : decode cX4_putWord 10 = .ok (.sipush 255, 3) := by decide +kernel
theorem dX4_putWord_13 : decode cX4_putWord 13 = .ok (.iand, 1) := by decide +kernel
theorem dX4_putWord_14 : decode cX4_putWord 14 = .ok (.iastore, 1) := by decide +kernel
theorem dX4_putWord_15 : decode cX4_putWord 15 = .ok (.aload_n 0, 1) := by decide +kernel
theorem dX4_putWord_16 : decode cX4_putWord 16 = .ok (.getfield 9, 3) := by decide +kernel
theorem dX4_putWord_19 : decode cX4_putWord 19 = .ok (.iload_n 1, 1) := by decide +kernel
theorem dX4_putWord_20 : decode cX4_putWord 20 = .ok (.iconst 1, 1) := by decide +kernel
theorem dX4_putWord_21 : decode cX4_putWord 21 = .ok (.iadd, 1) := by decide +kernel
theorem dX4_putWord_22 : decode cX4_putWord 22 = .ok (.sipush 4095, 3) := by decide +kernel
theorem dX4_putWord_25 : decode cX4_putWord 25 = .ok (.iand, 1) := by decide +kernel
theorem dX4_putWord_26 : decode cX4_putWord 26 = .ok (.iload_n 2, 1) := by decide +kernel
theorem dX4_putWord_27 : decode cX4_putWord 27 = .ok (.bipush 8, 2) := by decide +kernel
theorem dX4_putWord_29 : decode cX4_putWord 29 = .ok (.ishr, 1) := by decide +kernel
theorem dX4_putWord_30 : decode cX4_putWord 30 = .ok (.sipush 255, 3) := by decide +kernel
theorem dX4_putWord_33 : decode cX4_putWord 33 = .ok (.iand, 1) := by decide +kernel
theorem dX4_putWord_34 : decode cX4_putWord 34 = .ok (.iastore, 1) := by decide +kernel
theorem dX4_putWord_35 : decode cX4_putWord 35 = .ok (.return_, 1) := by decide +kernel
theorem dX4_fetch_0 : decode cX4_fetch 0 = .ok (.aload_n 0, 1) := by decide +kernel
theorem dX4_fetch_1 : decode cX4_fetch 1 = .ok (.getfield 9, 3) := by decide +kernel
theorem dX4_fetch_4 : decode cX4_fetch 4 = .ok (.bipush 16, 2) := by decide +kernel
theorem dX4_fetch_6 : decode cX4_fetch 6 = .ok (.aload_n 0, 1) := by decide +kernel
theorem dX4_fetch_7 : decode cX4_fetch 7 = .ok (.getfield 16, 3) := by decide +kernel
theorem dX4_fetch_10 : decode cX4_fetch 10 = .ok (.iconst 1, 1) := by decide +kernel
theorem dX4_fetch_11 : decode cX4_fetch 11 = .ok (.iaload, 1) := by decide +kernel
theorem dX4_fetch_12 : decode cX4_fetch 12 = .ok (.imul, 1) := by decide +kernel
theorem dX4_fetch_13 : decode cX4_fetch 13 = .ok (.aload_n 0, 1) := by decide +kernel
theorem dX4_fetch_14 : decode cX4_fetch 14 = .ok (.getfield 26, 3) := by decide +kernel
theorem dX4_fetch_17 : decode cX4_fetch 17 = .ok (.iadd, 1) := by decide +kernel
theorem dX4_fetch_18 : decode cX4_fetch 18 = .ok (.sipush 4095, 3) := by decide +kernel
theorem dX4_fetch_21 : decode cX4_fetch 21 = .ok (.iand, 1) := by decide +kernel
theorem dX4_fetch_22 : decode cX4_fetch 22 = .ok (.iaload, 1) := by decide +kernel
theorem dX4_fetch_23 : decode cX4_fetch 23 = .ok (.istore_n 1, 1) := by decide +kernel
theorem dX4_fetch_24 : decode cX4_fetch 24 = .ok (.aload_n 0, 1) := by decide +kernel
theorem dX4_fetch_25 : decode cX4_fetch 25 = .ok (.aload_n 0, 1) := by decide +kernel
theorem dX4_fetch_26 : decode cX4_fetch 26 = .ok (.getfield 26, 3) := by decide +kernel
theorem dX4_fetch_29 : decode cX4_fetch 29 = .ok (.iconst 1, 1) := by decide +kernel
theorem dX4_fetch_30 : decode cX4_fetch 30 = .ok (.iadd, 1) := by decide +kernel
theorem dX4_fetch_31 : decode cX4_fetch 31 = .ok (.ldc 95, 2) := by decide +kernel
theorem dX4_fetch_33 : decode cX4_fetch 33 = .ok (.iand, 1) := by decide +kernel
theorem dX4_fetch_34 : decode cX4_fetch 34 = .ok (.putfield 26, 3) := by decide +kernel
theorem dX4_fetch_37 : decode cX4_fetch 37 = .ok (.iload_n 1, 1) := by decide +kernel
theorem dX4_fetch_38 : decode cX4_fetch 38 = .ok (.ireturn, 1) := by decide +kernel
theorem dX4_fetchSigned_0 : decode cX4_fetchSigned 0 = .ok (.aload_n 0, 1) := by decide +kernel
theorem dX4_fetchSigned_1 : decode cX4_fetchSigned 1 = .ok (.invokevirtual 88, 3) := by decide +kernel
theorem dX4_fetchSigned_4 : decode cX4_fetchSigned 4 = .ok (.i2b, 1) := by decide +kernel
theorem dX4_fetchSigned_5 : decode cX4_fetchSigned 5 = .ok (.ireturn, 1) := by decide +kernel
theorem dX4_fetchWord_0 : decode cX4_fetchWord 0 = .ok (.aload_n 0, 1) := by decide +kernel
theorem dX4_fetchWord_1 : decode cX4_fetchWord 1 = .ok (.invokevirtual 88, 3) := by decide +kernel
theorem dX4_fetchWord_4 : decode cX4_fetchWord 4 = .ok (.istore_n 1, 1) := by decide +kernel
theorem dX4_fetchWord_5 : decode cX4_fetchWord 5 = .ok (.iload_n 1, 1) := by decide +kernel
theorem dX4_fetchWord_6 : decode cX4_fetchWord 6 = .ok (.sipush 256, 3) := by decide +kernel
theorem dX4_fetchWord_9 : decode cX4_fetchWord 9 = .ok (.aload_n 0, 1) := by decide +kernel
theorem dX4_fetchWord_10 : decode cX4_fetchWord 10 = .ok (.invokevirtual 88, 3) := by decide +kernel
theorem dX4_fetchWord_13 : decode cX4_fetchWord 13 = .ok (.imul, 1) := by decide +kernel
theorem dX4_fetchWord_14 : decode cX4_fetchWord 14 = .ok (.iadd, 1) := by decide +kernel
theorem dX4_fetchWord_15 : decode cX4_fetchWord 15 = .ok (.ireturn, 1) := by decide +kernel
theorem dX4_jump_0 : decode cX4_jump 0 = .ok (.aload_n 0, 1) := by decide +kernel
theorem dX4_jump_1 : decode cX4_jump 1 = .ok (.aload_n 0, 1) := by decide +kernel
theorem dX4_jump_2 : decode cX4_jump 2 = .ok (.getfield 26, 3) := by decide +kernel
theorem dX4_jump_5 : decode cX4_jump 5 = .ok (.iload_n 1, 1) := by decide +kernel
theorem dX4_jump_6 : decode cX4_jump 6 = .ok (.iadd, 1) := by decide +kernel
theorem dX4_jump_7 : decode cX4_jump 7 = .ok (.ldc 95, 2) := by decide +kernel
theorem dX4_jump_9 : decode cX4_jump 9 = .ok (.iand, 1) := by decide +kernel
theorem dX4_jump_10 : decode cX4_jump 10 = .ok (.putfield 26, 3) := by decide +kernel
theorem dX4_jump_13 : decode cX4_jump 13 = .ok (.return_, 1) := by decide +kernel
theorem dX4_push_0 : decode cX4_push 0 = .ok (.aload_n 0, 1) := by decide +kernel
theorem dX4_push_1 : decode cX4_push 1 = .ok (.getfield 13, 3) := by decide +kernel
theorem dX4_push_4 : decode cX4_push 4 = .ok (.iconst 4, 1) := by decide +kernel
theorem dX4_push_5 : decode cX4_push 5 = .ok (.aload_n 0, 1) := by decide +kernel
theorem dX4_push_6 : decode cX4_push 6 = .ok (.getfield 13, 3) := by decide +kernel
theorem dX4_push_9 : decode cX4_push 9 = .ok (.iconst 4, 1) := by decide +kernel
theorem dX4_push_10 : decode cX4_push 10 = .ok (.iaload, 1) := by decide +kernel
theorem dX4_push_11 : decode cX4_push 11 = .ok (.iconst 2, 1) := by decide +kernel
theorem dX4_push_12 : decode cX4_push 12 = .ok (.isub, 1) := by decide +kernel
theorem dX4_push_13 : decode cX4_push 13 = .ok (.ldc 95, 2) := by decide +kernel
theorem dX4_push_15 : decode cX4_push 15 = .ok (.iand, 1) := by decide +kernel
theorem dX4_push_16 : decode cX4_push 16 = .ok (.iastore, 1) := by decide +kernel
theorem dX4_push_17 : decode cX4_push 17 = .ok (.aload_n 0, 1) := by decide +kernel
theorem dX4_push_18 : decode cX4_push 18 = .ok (.bipush 16, 2) := by decide +kernel
theorem dX4_push_20 : decode cX4_push 20 = .ok (.aload_n 0, 1) := by decide +kernel
theorem dX4_push_21 : decode cX4_push 21 = .ok (.getfield 16, 3) := by decide +kernel
theorem dX4_push_24 : decode cX4_push 24 = .ok (.iconst 2, 1) := by decide +kernel
theorem dX4_push_25 : decode cX4_push 25 = .ok (.iaload, 1) := by decide +kernel
theorem dX4_push_26 : decode cX4_push 26 = .ok (.imul, 1) := by decide +kernel
theorem dX4_push_27 : decode cX4_push 27 = .ok (.aload_n 0, 1) := by decide +kernel
theorem dX4_push_28 : decode cX4_push 28 = .ok (.getfield 13, 3) := by decide +kernel
theorem dX4_push_31 : decode cX4_push 31 = .ok (.iconst 4, 1) := by decide +kernel
theorem dX4_push_32 : decode cX4_push 32 = .ok (.iaload, 1) := by decide +kernel
theorem dX4_push_33 : decode cX4_push 33 = .ok (.iadd, 1) := by decide +kernel
theorem dX4_push_34 : decode cX4_push 34 = .ok (.iload_n 1, 1) := by decide +kernel
theorem dX4_push_35 : decode cX4_push 35 = .ok (.invokevirtual 78, 3) := by decide +kernel
theorem dX4_push_38 : decode cX4_push 38 = .ok (.return_, 1) := by decide +kernel
theorem dX4_pop_0 : decode cX4_pop 0 = .ok (.aload_n 0, 1) := by decide +kernel
theorem dX4_pop_1 : decode cX4_pop 1 = .ok (.bipush 16, 2) := by decide +kernel
theorem dX4_pop_3 : decode cX4_pop 3 = .ok (.aload_n 0, 1) := by decide +kernel
theorem dX4_pop_4 : decode cX4_pop 4 = .ok (.getfield 16, 3) := by decide +kernel
theorem dX4_pop_7 : decode cX4_pop 7 = .ok (.iconst 2, 1) := by decide +kernel
theorem dX4_pop_8 : decode cX4_pop 8 = .ok (.iaload, 1) := by decide +kernel
theorem dX4_pop_9 : decode cX4_pop 9 = .ok (.imul, 1) := by decide +kernel
theorem dX4_pop_10 : decode cX4_pop 10 = .ok (.aload_n 0, 1) := by decide +kernel
theorem dX4_pop_11 : decode cX4_pop 11 = .ok (.getfield 13, 3) := by decide +kernel
theorem dX4_pop_14 : decode cX4_pop 14 = .ok (.iconst 4, 1) := by decide +kernel
theorem dX4_pop_15 : decode cX4_pop 15 = .ok (.iaload, 1) := by decide +kernel
theorem dX4_pop_16 : decode cX4_pop 16 = .ok (.iadd, 1) := by decide +kernel
theorem dX4_pop_17 : decode cX4_pop 17 = .ok (.invokevirtual 74, 3) := by decide +kernel
theorem dX4_pop_20 : decode cX4_pop 20 = .ok (.istore_n 1, 1) := by decide +kernel
theorem dX4_pop_21 : decode cX4_pop 21 = .ok (.aload_n 0, 1) := by decide +kernel
theorem dX4_pop_22 : decode cX4_pop 22 = .ok (.getfield 13, 3) := by decide +kernel
theorem dX4_pop_25 : decode cX4_pop 25 = .ok (.iconst 4, 1) := by decide +kernel
theorem dX4_pop_26 : decode cX4_pop 26 = .ok (.aload_n 0, 1) := by decide +kernel
theorem dX4_pop_27 : decode cX4_pop 27 = .ok (.getfield 13, 3) := by decide +kernel
theorem dX4_pop_30 : decode cX4_pop 30 = .ok (.iconst 4, 1) := by decide +kernel
theorem dX4_pop_31 : decode cX4_pop 31 = .ok (.iaload, 1) := by decide +kernel
theorem dX4_pop_32 : decode cX4_pop 32 = .ok (.iconst 2, 1) := by decide +kernel
theorem dX4_pop_33 : decode cX4_pop 33 = .ok (.iadd, 1) := by decide +kernel
theorem dX4_pop_34 : decode cX4_pop 34 = .ok (.ldc 95, 2) := by decide +kernel
theorem dX4_pop_36 : decode cX4_pop 36 = .ok (.iand, 1) := by decide +kernel
theorem dX4_pop_37 : decode cX4_pop 37 = .ok (.iastore, 1) := by decide +kernel
theorem dX4_pop_38 : decode cX4_pop 38 = .ok (.iload_n 1, 1) := by decide +kernel
theorem dX4_pop_39 : decode cX4_pop 39 = .ok (.ireturn, 1) := by decide +kernel
set_option maxHeartbeats 4000000 in
set_option maxRecDepth 100000 in
theorem s_X4_word (l : Launch) (D : va_G) (dA : Nat → ClassId) (t0 : Nat) (a0 : Int32) (c0 : Nat) (c1 : Nat) (c2 : Nat) (i0 : Int32) (i1 : Int32) (i2 : Int32) (i3 : Int32) (i4 : Int32) (i5 : Int32) (i6 : Int32) (c3 : Nat) (i7 : Int32) (i8 : Int32) (i9 : Int32) (m0 : Nat → Int32) (m1 : Nat → Int32) (m2 : Nat → Int32) (m3 : Nat → Int32) (p0 : 0 ≤ i4.toInt ∧ i4.toInt ≤ 1) (p1 : 0 ≤ i6.toInt ∧ i6.toInt ≤ 1000000) (p2 : 0 ≤ i7.toInt ∧ i7.toInt ≤ 7) (p3 : -1 ≤ i8.toInt ∧ i8.toInt ≤ 7) (p4 : ∀ j : Nat, 0 ≤ (m0 j).toInt ∧ (m0 j).toInt ≤ 255) (sz : Nat) : Met l yX4_word (gws yX4_word cX4_word 2 (some .int)) (gR 1 0 0) (gPre D dA [.ref t0, .int a0] [(t0, .inr (4, [.ref c0, .ref c1, .ref c2, .int i0, .int i1, .int i2, .int i3, .int i4, .int i5, .int i6, .ref c3, .int i7, .int i8, .int i9])), (c0, .inl (dA 0, 4096, .inl m0)), (c1, .inl (dA 0, 8, .inl m1)), (c2, .inl (dA 0, 4, .inl m2)), (c3, .inl (dA 0, 30, .inl m3))] sz) (va_Qi (fun (r : Int32) (u : Unit) => True) (gAt D dA (va_A [(t0, .inr (4, [.ref c0, .ref c1, .ref c2, .int i0, .int i1, .int i2, .int i3, .int i4, .int i5, .int i6, .ref c3, .int i7, .int i8, .int i9])), (c0, .inl (dA 0, 4096, .inl m0)), (c1, .inl (dA 0, 8, .inl m1)), (c2, .inl (dA 0, 4, .inl m2)), (c3, .inl (dA 0, 30, .inl m3))] sz) (fun u : Unit => [(t0, .inr (4, [.ref c0, .ref c1, .ref c2, .int i0, .int i1, .int i2, .int i3, .int i4, .int i5, .int i6, .ref c3, .int i7, .int i8, .int i9])), (c0, .inl (dA 0, 4096, .inl m0)), (c1, .inl (dA 0, 8, .inl m1)), (c2, .inl (dA 0, 4, .inl m2)), (c3, .inl (dA 0, 30, .inl m3))])) (va_A [(t0, .inr (4, [.ref c0, .ref c1, .ref c2, .int i0, .int i1, .int i2, .int i3, .int i4, .int i5, .int i6, .ref c3, .int i7, .int i8, .int i9])), (c0, .inl (dA 0, 4096, .inl m0)), (c1, .inl (dA 0, 8, .inl m1)), (c2, .inl (dA 0, 4, .inl m2)), (c3, .inl (dA 0, 30, .inl m3))] sz)) 0 0 (va_A [(t0, .inr (4, [.ref c0, .ref c1, .ref c2, .int i0, .int i1, .int i2, .int i3, .int i4, .int i5, .int i6, .ref c3, .int i7, .int i8, .int i9])), (c0, .inl (dA 0, 4096, .inl m0)), (c1, .inl (dA 0, 8, .inl m1)), (c2, .inl (dA 0, 4, .inl m2)), (c3, .inl (dA 0, 30, .inl m3))] sz) := by
  refine Met.ofW (cc := cX4_word) (maxL := 2) (ret := (some .int)) (by decide) rfl ?_
  intro p e s m args below meth c s₁ B hml hv
  obtain ⟨rfl, hsz, hP, hK, hD0⟩ := hv
  have hx := B.exec
  have hb := B.bytes
  have hr := B.returns
  have hts := atoms_spec (ws := gws yX4_word cX4_word 2 (some .int)) B.pre
  have hg : ∀ w ∈ gw, w.before _ s = true := fun w h => hts w (List.mem_cons_of_mem _ h)
  have hown : s.vm.findClass RX4 = some m.cls := findClass_of_methodNamed B.named
  have hlocks := B.notSynchronized
  subst hsz
  have hD := hD0.self (sz := s.heap.size)
  generalize hAe : va_A [(t0, .inr (4, [.ref c0, .ref c1, .ref c2, .int i0, .int i1, .int i2, .int i3, .int i4, .int i5, .int i6, .ref c3, .int i7, .int i8, .int i9])), (c0, .inl (dA 0, 4096, .inl m0)), (c1, .inl (dA 0, 8, .inl m1)), (c2, .inl (dA 0, 4, .inl m2)), (c3, .inl (dA 0, 30, .inl m3))] s.heap.size = A at hD ⊢
  have hA : ∀ q : Nat, s.heap.size ≤ q → A q := fun q h => by rw [← hAe]; exact Or.inr h
  have hS : va_S A s.heap s.heap [] := va_S.rf
  have hP : va_P D vwC [(t0, .inr (4, [.ref c0, .ref c1, .ref c2, .int i0, .int i1, .int i2, .int i3, .int i4, .int i5, .int i6, .ref c3, .int i7, .int i8, .int i9])), (c0, .inl (dA 0, 4096, .inl m0)), (c1, .inl (dA 0, 8, .inl m1)), (c2, .inl (dA 0, 4, .inl m2)), (c3, .inl (dA 0, 30, .inl m3))] s.heap := hP
  have hl := lv_entry ([.ref t0, .int a0]) (n := 2) (Nat.le_of_ble_eq_true rfl)
  rw [lg_entry_eq]
  generalize (lg_sl ([.ref t0, .int a0]) ++ List.replicate (2 - (lg_sl ([.ref t0, .int a0])).length) Slot.unset).toArray = ls at hl ⊢
  have hl : lv_has ls 2 [(0, .ref t0), (1, .int a0)] := hl
  refine lv_aload_n hx hb dX4_word_0 rfl (lv_at hl 0 rfl) ?_
  refine g_get hx hb hg hown hK hP 0 rfl rfl inX4 0 (by decide) q552 rfl dX4_word_1 ?_
  refine lv_iload_n hx hb dX4_word_4 rfl (lv_at hl 1 rfl) ?_
  refine lv_sipush (v := 4095) hx hb dX4_word_5 (by decide) ?_
  refine lv_iand hx hb dX4_word_8 ?_
  refine lv_topi (fun x1 e2 => ?_)
  have g3 : 0 ≤ x1.toInt ∧ x1.toInt ≤ 4095 := g_msk e2 12 (by decide) (by decide) (by decide)
  refine va_iald hx hb hK hP 1 0 rfl rfl (by rw [vp_in_iff]; omega) dX4_word_9 ?_
  refine lv_topi (fun x4 e5 => ?_)
  have g6 : 0 ≤ x4.toInt ∧ x4.toInt ≤ 255 := by rw [e5]; exact p4 _
  refine lv_sipush (v := 256) hx hb dX4_word_10 (by decide) ?_
  refine lv_aload_n hx hb dX4_word_13 rfl (lv_at hl 0 rfl) ?_
  refine g_get hx hb hg hown hK hP 0 rfl rfl inX4 0 (by decide) q552 rfl dX4_word_14 ?_
  refine lv_iload_n hx hb dX4_word_17 rfl (lv_at hl 1 rfl) ?_
  refine lv_iconst (v := 1) hx hb dX4_word_18 (by decide) ?_
  refine lv_iadd hx hb dX4_word_19 ?_
  have g7 := g_i32 a0
  refine lv_topi (fun x8 e9 => ?_)
  refine lv_sipush (v := 4095) hx hb dX4_word_20 (by decide) ?_
  refine lv_iand hx hb dX4_word_23 ?_
  refine lv_topi (fun x10 e11 => ?_)
  have g12 : 0 ≤ x10.toInt ∧ x10.toInt ≤ 4095 := g_msk e11 12 (by decide) (by decide) (by decide)
  refine va_iald hx hb hK hP 1 0 rfl rfl (by rw [vp_in_iff]; omega) dX4_word_24 ?_
  refine lv_topi (fun x13 e14 => ?_)
  have g15 : 0 ≤ x13.toInt ∧ x13.toInt ≤ 255 := by rw [e14]; exact p4 _
  refine lv_imul hx hb dX4_word_25 ?_
  refine lv_topi (fun x16 e17 => ?_)
  have g18 : x16.toInt = 256 * x13.toInt := g_mul e17 (by decide) rfl (by omega) (by omega)
  refine lv_iadd hx hb dX4_word_26 ?_
  refine lv_topi (fun x19 e20 => ?_)
  have g21 : x19.toInt = x4.toInt + x16.toInt := g_add e20 rfl rfl (by omega) (by omega)
  exact g_iret hx hb hr rfl hlocks hK () hP hD hS trivial (Nat.le_of_ble_eq_true rfl) (Nat.le_of_ble_eq_true rfl) dX4_word_27
set_option maxHeartbeats 4000000 in
set_option maxRecDepth 100000 in
theorem s_X4_putWord (l : Launch) (D : va_G) (dA : Nat → ClassId) (t0 : Nat) (a0 : Int32) (a1 : Int32) (c0 : Nat) (c1 : Nat) (c2 : Nat) (i0 : Int32) (i1 : Int32) (i2 : Int32) (i3 : Int32) (i4 : Int32) (i5 : Int32) (i6 : Int32) (c3 : Nat) (i7 : Int32) (i8 : Int32) (i9 : Int32) (m0 : Nat → Int32) (m1 : Nat → Int32) (m2 : Nat → Int32) (m3 : Nat → Int32) (p0 : 0 ≤ i4.toInt ∧ i4.toInt ≤ 1) (p1 : 0 ≤ i6.toInt ∧ i6.toInt ≤ 1000000) (p2 : 0 ≤ i7.toInt ∧ i7.toInt ≤ 7) (p3 : -1 ≤ i8.toInt ∧ i8.toInt ≤ 7) (p4 : ∀ j : Nat, 0 ≤ (m0 j).toInt ∧ (m0 j).toInt ≤ 255) (sz : Nat) : Met l yX4_putWord (gws yX4_putWord cX4_putWord 3 none) (gR 1 0 0) (gPre D dA [.ref t0, .int a0, .int a1] [(t0, .inr (4, [.ref c0, .ref c1, .ref c2, .int i0, .int i1, .int i2, .int i3, .int i4, .int i5, .int i6, .ref c3, .int i7, .int i8, .int i9])), (c0, .inl (dA 0, 4096, .inl m0)), (c1, .inl (dA 0, 8, .inl m1)), (c2, .inl (dA 0, 4, .inl m2)), (c3, .inl (dA 0, 30, .inl m3))] sz) (va_Qv (fun u : (Nat → Int32) => (∀ j : Nat, 0 ≤ (u j).toInt ∧ (u j).toInt ≤ 255)) (gAt D dA (va_A [(t0, .inr (4, [.ref c0, .ref c1, .ref c2, .int i0, .int i1, .int i2, .int i3, .int i4, .int i5, .int i6, .ref c3, .int i7, .int i8, .int i9])), (c0, .inl (dA 0, 4096, .inl m0)), (c1, .inl (dA 0, 8, .inl m1)), (c2, .inl (dA 0, 4, .inl m2)), (c3, .inl (dA 0, 30, .inl m3))] sz) (fun u : (Nat → Int32) => [(t0, .inr (4, [.ref c0, .ref c1, .ref c2, .int i0, .int i1, .int i2, .int i3, .int i4, .int i5, .int i6, .ref c3, .int i7, .int i8, .int i9])), (c0, .inl (dA 0, 4096, .inl u)), (c1, .inl (dA 0, 8, .inl m1)), (c2, .inl (dA 0, 4, .inl m2)), (c3, .inl (dA 0, 30, .inl m3))])) (va_A [(t0, .inr (4, [.ref c0, .ref c1, .ref c2, .int i0, .int i1, .int i2, .int i3, .int i4, .int i5, .int i6, .ref c3, .int i7, .int i8, .int i9])), (c0, .inl (dA 0, 4096, .inl m0)), (c1, .inl (dA 0, 8, .inl m1)), (c2, .inl (dA 0, 4, .inl m2)), (c3, .inl (dA 0, 30, .inl m3))] sz)) 0 0 (va_A [(t0, .inr (4, [.ref c0, .ref c1, .ref c2, .int i0, .int i1, .int i2, .int i3, .int i4, .int i5, .int i6, .ref c3, .int i7, .int i8, .int i9])), (c0, .inl (dA 0, 4096, .inl m0)), (c1, .inl (dA 0, 8, .inl m1)), (c2, .inl (dA 0, 4, .inl m2)), (c3, .inl (dA 0, 30, .inl m3))] sz) := by
  refine Met.ofW (cc := cX4_putWord) (maxL := 3) (ret := none) (by decide) rfl ?_
  intro p e s m args below meth c s₁ B hml hv
  obtain ⟨rfl, hsz, hP, hK, hD0⟩ := hv
  have hx := B.exec
  have hb := B.bytes
  have hr := B.returns
  have hts := atoms_spec (ws := gws yX4_putWord cX4_putWord 3 none) B.pre
  have hg : ∀ w ∈ gw, w.before _ s = true := fun w h => hts w (List.mem_cons_of_mem _ h)
  have hown : s.vm.findClass RX4 = some m.cls := findClass_of_methodNamed B.named
  have hlocks := B.notSynchronized
  subst hsz
  have hD := hD0.self (sz := s.heap.size)
  generalize hAe : va_A [(t0, .inr (4, [.ref c0, .ref c1, .ref c2, .int i0, .int i1, .int i2, .int i3, .int i4, .int i5, .int i6, .ref c3, .int i7, .int i8, .int i9])), (c0, .inl (dA 0, 4096, .inl m0)), (c1, .inl (dA 0, 8, .inl m1)), (c2, .inl (dA 0, 4, .inl m2)), (c3, .inl (dA 0, 30, .inl m3))] s.heap.size = A at hD ⊢
  have hA : ∀ q : Nat, s.heap.size ≤ q → A q := fun q h => by rw [← hAe]; exact Or.inr h
  have hS : va_S A s.heap s.heap [] := va_S.rf
  have hP : va_P D vwC [(t0, .inr (4, [.ref c0, .ref c1, .ref c2, .int i0, .int i1, .int i2, .int i3, .int i4, .int i5, .int i6, .ref c3, .int i7, .int i8, .int i9])), (c0, .inl (dA 0, 4096, .inl m0)), (c1, .inl (dA 0, 8, .inl m1)), (c2, .inl (dA 0, 4, .inl m2)), (c3, .inl (dA 0, 30, .inl m3))] s.heap := hP
  have hl := lv_entry ([.ref t0, .int a0, .int a1]) (n := 3) (Nat.le_of_ble_eq_true rfl)
  rw [lg_entry_eq]
  generalize (lg_sl ([.ref t0, .int a0, .int a1]) ++ List.replicate (3 - (lg_sl ([.ref t0, .int a0, .int a1])).length) Slot.unset).toArray = ls at hl ⊢
  have hl : lv_has ls 3 [(0, .ref t0), (1, .int a0), (2, .int a1)] := hl
  refine lv_aload_n hx hb dX4_putWord_0 rfl (lv_at hl 0 rfl) ?_
  refine g_get hx hb hg hown hK hP 0 rfl rfl inX4 0 (by decide) q552 rfl dX4_putWord_1 ?_
  refine lv_iload_n hx hb dX4_putWord_4 rfl (lv_at hl 1 rfl) ?_
  refine lv_sipush (v := 4095) hx hb dX4_putWord_5 (by decide) ?_
  refine lv_iand hx hb dX4_putWord_8 ?_
  refine lv_topi (fun x1 e2 => ?_)
  have g3 : 0 ≤ x1.toInt ∧ x1.toInt ≤ 4095 := g_msk e2 12 (by decide) (by decide) (by decide)
  refine lv_iload_n hx hb dX4_putWord_9 rfl (lv_at hl 2 rfl) ?_
  refine lv_sipush (v := 255) hx hb dX4_putWord_10 (by decide) ?_
  refine lv_iand hx hb dX4_putWord_13 ?_
  refine lv_topi (fun x4 e5 => ?_)
  have g6 : 0 ≤ x4.toInt ∧ x4.toInt ≤ 255 := g_msk e5 8 (by decide) (by decide) (by decide)
  refine va_iast hx hb hK hP hD hS 1 0 rfl rfl (by rw [vp_in_iff]; omega) dX4_putWord_14 (fun H locs hP hD hS => ?_)
  have hP : va_P D vwC [(t0, .inr (4, [.ref c0, .ref c1, .ref c2, .int i0, .int i1, .int i2, .int i3, .int i4, .int i5, .int i6, .ref c3, .int i7, .int i8, .int i9])), (c0, .inl (dA 0, 4096, .inl (upd m0 (x1 : Int32).toNatClampNeg x4))), (c1, .inl (dA 0, 8, .inl m1)), (c2, .inl (dA 0, 4, .inl m2)), (c3, .inl (dA 0, 30, .inl m3))] H := hP
  have hD : va_D A [(t0, .inr (4, [.ref c0, .ref c1, .ref c2, .int i0, .int i1, .int i2, .int i3, .int i4, .int i5, .int i6, .ref c3, .int i7, .int i8, .int i9])), (c0, .inl (dA 0, 4096, .inl (upd m0 (x1 : Int32).toNatClampNeg x4))), (c1, .inl (dA 0, 8, .inl m1)), (c2, .inl (dA 0, 4, .inl m2)), (c3, .inl (dA 0, 30, .inl m3))] := hD
  obtain ⟨f7, ef7⟩ : ∃ f : Nat → Int32, f = (upd m0 (x1 : Int32).toNatClampNeg x4) := ⟨_, rfl⟩
  rw [← ef7] at hP hD
  have hf7 : ∀ j : Nat, 0 ≤ (f7 j).toInt ∧ (f7 j).toInt ≤ 255 := by rw [ef7]; exact g_updB p4 (by omega) (by omega)
  refine lv_aload_n hx hb dX4_putWord_15 rfl (lv_at hl 0 rfl) ?_
  refine g_get hx hb hg hown hK hP 0 rfl rfl inX4 0 (by decide) q552 rfl dX4_putWord_16 ?_
  refine lv_iload_n hx hb dX4_putWord_19 rfl (lv_at hl 1 rfl) ?_
  refine lv_iconst (v := 1) hx hb dX4_putWord_20 (by decide) ?_
  refine lv_iadd hx hb dX4_putWord_21 ?_
  have g8 := g_i32 a0
  refine lv_topi (fun x9 e10 => ?_)
  refine lv_sipush (v := 4095) hx hb dX4_putWord_22 (by decide) ?_
  refine lv_iand hx hb dX4_putWord_25 ?_
  refine lv_topi (fun x11 e12 => ?_)
  have g13 : 0 ≤ x11.toInt ∧ x11.toInt ≤ 4095 := g_msk e12 12 (by decide) (by decide) (by decide)
  refine lv_iload_n hx hb dX4_putWord_26 rfl (lv_at hl 2 rfl) ?_
  refine lv_bipush (v := 8) hx hb dX4_putWord_27 (by decide) ?_
  refine lv_ishr hx hb dX4_putWord_29 ?_
  refine lv_topi (fun x14 e15 => ?_)
  have g16 : x14.toInt * 256 ≤ a1.toInt ∧ a1.toInt < x14.toInt * 256 + 256 := g_shr e15 8 (by decide) (by decide) (by decide)
  refine lv_sipush (v := 255) hx hb dX4_putWord_30 (by decide) ?_
  refine lv_iand hx hb dX4_putWord_33 ?_
  refine lv_topi (fun x17 e18 => ?_)
  have g19 : 0 ≤ x17.toInt ∧ x17.toInt ≤ 255 := g_msk e18 8 (by decide) (by decide) (by decide)
  refine va_iast hx hb hK hP hD hS 1 0 rfl rfl (by rw [vp_in_iff]; omega) dX4_putWord_34 (fun H locs hP hD hS => ?_)
  have hP : va_P D vwC [(t0, .inr (4, [.ref c0, .ref c1, .ref c2, .int i0, .int i1, .int i2, .int i3, .int i4, .int i5, .int i6, .ref c3, .int i7, .int i8, .int i9])), (c0, .inl (dA 0, 4096, .inl (upd f7 (x11 : Int32).toNatClampNeg x17))), (c1, .inl (dA 0, 8, .inl m1)), (c2, .inl (dA 0, 4, .inl m2)), (c3, .inl (dA 0, 30, .inl m3))] H := hP
  have hD : va_D A [(t0, .inr (4, [.ref c0, .ref c1, .ref c2, .int i0, .int i1, .int i2, .int i3, .int i4, .int i5, .int i6, .ref c3, .int i7, .int i8, .int i9])), (c0, .inl (dA 0, 4096, .inl (upd f7 (x11 : Int32).toNatClampNeg x17))), (c1, .inl (dA 0, 8, .inl m1)), (c2, .inl (dA 0, 4, .inl m2)), (c3, .inl (dA 0, 30, .inl m3))] := hD
  obtain ⟨f20, ef20⟩ : ∃ f : Nat → Int32, f = (upd f7 (x11 : Int32).toNatClampNeg x17) := ⟨_, rfl⟩
  rw [← ef20] at hP hD
  have hf20 : ∀ j : Nat, 0 ≤ (f20 j).toInt ∧ (f20 j).toInt ≤ 255 := by rw [ef20]; exact g_updB hf7 (by omega) (by omega)
  exact g_vret hx hb hr hlocks hK f20 hP hD hS hf20 (Nat.le_of_ble_eq_true rfl) (Nat.le_of_ble_eq_true rfl) dX4_putWord_35
set_option maxHeartbeats 4000000 in
set_option maxRecDepth 100000 in
theorem s_X4_fetch (l : Launch) (D : va_G) (dA : Nat → ClassId) (t0 : Nat) (c0 : Nat) (c1 : Nat) (c2 : Nat) (i0 : Int32) (i1 : Int32) (i2 : Int32) (i3 : Int32) (i4 : Int32) (i5 : Int32) (i6 : Int32) (c3 : Nat) (i7 : Int32) (i8 : Int32) (i9 : Int32) (m0 : Nat → Int32) (m1 : Nat → Int32) (m2 : Nat → Int32) (m3 : Nat → Int32) (p0 : 0 ≤ i4.toInt ∧ i4.toInt ≤ 1) (p1 : 0 ≤ i6.toInt ∧ i6.toInt ≤ 1000000) (p2 : 0 ≤ i7.toInt ∧ i7.toInt ≤ 7) (p3 : -1 ≤ i8.toInt ∧ i8.toInt ≤ 7) (p4 : ∀ j : Nat, 0 ≤ (m0 j).toInt ∧ (m0 j).toInt ≤ 255) (sz : Nat) : Met l yX4_fetch (gws yX4_fetch cX4_fetch 2 (some .int)) (gR 1 0 0) (gPre D dA [.ref t0] [(t0, .inr (4, [.ref c0, .ref c1, .ref c2, .int i0, .int i1, .int i2, .int i3, .int i4, .int i5, .int i6, .ref c3, .int i7, .int i8, .int i9])), (c0, .inl (dA 0, 4096, .inl m0)), (c1, .inl (dA 0, 8, .inl m1)), (c2, .inl (dA 0, 4, .inl m2)), (c3, .inl (dA 0, 30, .inl m3))] sz) (va_Qi (fun (r : Int32) (u : Int32) => (0 ≤ r.toInt ∧ r.toInt ≤ 255)) (gAt D dA (va_A [(t0, .inr (4, [.ref c0, .ref c1, .ref c2, .int i0, .int i1, .int i2, .int i3, .int i4, .int i5, .int i6, .ref c3, .int i7, .int i8, .int i9])), (c0, .inl (dA 0, 4096, .inl m0)), (c1, .inl (dA 0, 8, .inl m1)), (c2, .inl (dA 0, 4, .inl m2)), (c3, .inl (dA 0, 30, .inl m3))] sz) (fun u : Int32 => [(t0, .inr (4, [.ref c0, .ref c1, .ref c2, .int u, .int i1, .int i2, .int i3, .int i4, .int i5, .int i6, .ref c3, .int i7, .int i8, .int i9])), (c0, .inl (dA 0, 4096, .inl m0)), (c1, .inl (dA 0, 8, .inl m1)), (c2, .inl (dA 0, 4, .inl m2)), (c3, .inl (dA 0, 30, .inl m3))])) (va_A [(t0, .inr (4, [.ref c0, .ref c1, .ref c2, .int i0, .int i1, .int i2, .int i3, .int i4, .int i5, .int i6, .ref c3, .int i7, .int i8, .int i9])), (c0, .inl (dA 0, 4096, .inl m0)), (c1, .inl (dA 0, 8, .inl m1)), (c2, .inl (dA 0, 4, .inl m2)), (c3, .inl (dA 0, 30, .inl m3))] sz)) 0 0 (va_A [(t0, .inr (4, [.ref c0, .ref c1, .ref c2, .int i0, .int i1, .int i2, .int i3, .int i4, .int i5, .int i6, .ref c3, .int i7, .int i8, .int i9])), (c0, .inl (dA 0, 4096, .inl m0)), (c1, .inl (dA 0, 8, .inl m1)), (c2, .inl (dA 0, 4, .inl m2)), (c3, .inl (dA 0, 30, .inl m3))] sz) := by
  refine Met.ofW (cc := cX4_fetch) (maxL := 2) (ret := (some .int)) (by decide) rfl ?_
  intro p e s m args below meth c s₁ B hml hv
  obtain ⟨rfl, hsz, hP, hK, hD0⟩ := hv
  have hx := B.exec
  have hb := B.bytes
  have hr := B.returns
  have hts := atoms_spec (ws := gws yX4_fetch cX4_fetch 2 (some .int)) B.pre
  have hg : ∀ w ∈ gw, w.before _ s = true := fun w h => hts w (List.mem_cons_of_mem _ h)
  have hown : s.vm.findClass RX4 = some m.cls := findClass_of_methodNamed B.named
  have hlocks := B.notSynchronized
  subst hsz
  have hD := hD0.self (sz := s.heap.size)
  generalize hAe : va_A [(t0, .inr (4, [.ref c0, .ref c1, .ref c2, .int i0, .int i1, .int i2, .int i3, .int i4, .int i5, .int i6, .ref c3, .int i7, .int i8, .int i9])), (c0, .inl (dA 0, 4096, .inl m0)), (c1, .inl (dA 0, 8, .inl m1)), (c2, .inl (dA 0, 4, .inl m2)), (c3, .inl (dA 0, 30, .inl m3))] s.heap.size = A at hD ⊢
  have hA : ∀ q : Nat, s.heap.size ≤ q → A q := fun q h => by rw [← hAe]; exact Or.inr h
  have hS : va_S A s.heap s.heap [] := va_S.rf
  have hP : va_P D vwC [(t0, .inr (4, [.ref c0, .ref c1, .ref c2, .int i0, .int i1, .int i2, .int i3, .int i4, .int i5, .int i6, .ref c3, .int i7, .int i8, .int i9])), (c0, .inl (dA 0, 4096, .inl m0)), (c1, .inl (dA 0, 8, .inl m1)), (c2, .inl (dA 0, 4, .inl m2)), (c3, .inl (dA 0, 30, .inl m3))] s.heap := hP
  have hl := lv_entry ([.ref t0]) (n := 2) (Nat.le_of_ble_eq_true rfl)
  rw [lg_entry_eq]
  generalize (lg_sl ([.ref t0]) ++ List.replicate (2 - (lg_sl ([.ref t0])).length) Slot.unset).toArray = ls at hl ⊢
  have hl : lv_has ls 2 [(0, .ref t0)] := hl
  refine lv_aload_n hx hb dX4_fetch_0 rfl (lv_at hl 0 rfl) ?_
  refine g_get hx hb hg hown hK hP 0 rfl rfl inX4 0 (by decide) q552 rfl dX4_fetch_1 ?_
  refine lv_bipush (v := 16) hx hb dX4_fetch_4 (by decide) ?_
  refine lv_aload_n hx hb dX4_fetch_6 rfl (lv_at hl 0 rfl) ?_
  refine g_get hx hb hg hown hK hP 0 rfl rfl inX4 2 (by decide) q556 rfl dX4_fetch_7 ?_
  refine lv_iconst (v := 1) hx hb dX4_fetch_10 (by decide) ?_
  refine va_iald hx hb hK hP 3 0 rfl rfl (by unfold vp_in; decide) dX4_fetch_11 ?_
  refine lv_topi (fun x1 e2 => ?_)
  refine lv_imul hx hb dX4_fetch_12 ?_
  have g3 := g_i32 x1
  refine lv_topi (fun x4 e5 => ?_)
  refine lv_aload_n hx hb dX4_fetch_13 rfl (lv_at hl 0 rfl) ?_
  refine g_get hx hb hg hown hK hP 0 rfl rfl inX4 3 (by decide) q558 rfl dX4_fetch_14 ?_
  refine lv_iadd hx hb dX4_fetch_17 ?_
  have g6 := g_i32 x4
  have g7 := g_i32 i0
  refine lv_topi (fun x8 e9 => ?_)
  refine lv_sipush (v := 4095) hx hb dX4_fetch_18 (by decide) ?_
  refine lv_iand hx hb dX4_fetch_21 ?_
  refine lv_topi (fun x10 e11 => ?_)
  have g12 : 0 ≤ x10.toInt ∧ x10.toInt ≤ 4095 := g_msk e11 12 (by decide) (by decide) (by decide)
  refine va_iald hx hb hK hP 1 0 rfl rfl (by rw [vp_in_iff]; omega) dX4_fetch_22 ?_
  refine lv_topi (fun x13 e14 => ?_)
  have g15 : 0 ≤ x13.toInt ∧ x13.toInt ≤ 255 := by rw [e14]; exact p4 _
  refine lv_istore_n (lv' := [(1, .int x13), (0, .ref t0)]) hx hb dX4_fetch_23 rfl hl (by decide) rfl (fun ls hl => ?_)
  refine lv_aload_n hx hb dX4_fetch_24 rfl (lv_at hl 1 rfl) ?_
  refine lv_aload_n hx hb dX4_fetch_25 rfl (lv_at hl 1 rfl) ?_
  refine g_get hx hb hg hown hK hP 0 rfl rfl inX4 3 (by decide) q558 rfl dX4_fetch_26 ?_
  refine lv_iconst (v := 1) hx hb dX4_fetch_29 (by decide) ?_
  refine lv_iadd hx hb dX4_fetch_30 ?_
  have g16 := g_i32 i0
  refine lv_topi (fun x17 e18 => ?_)
  refine lv_ldc hx hb hown (hg _ q1400) dX4_fetch_31 ?_
  refine lv_iand hx hb dX4_fetch_33 ?_
  refine lv_topi (fun x19 e20 => ?_)
  have g21 : 0 ≤ x19.toInt ∧ x19.toInt ≤ 65535 := g_msk e20 16 (by decide) (by decide) (by decide)
  refine g_put (w' := [(t0, .inr (4, [.ref c0, .ref c1, .ref c2, .int x19, .int i1, .int i2, .int i3, .int i4, .int i5, .int i6, .ref c3, .int i7, .int i8, .int i9])), (c0, .inl (dA 0, 4096, .inl m0)), (c1, .inl (dA 0, 8, .inl m1)), (c2, .inl (dA 0, 4, .inl m2)), (c3, .inl (dA 0, 30, .inl m3))]) hx hb hg hown hK hP hD hS 0 rfl rfl inX4 tyX4_ok nmX4 3 (by decide) q558 rfl rfl rfl (Nat.le_of_ble_eq_true rfl) rfl dX4_fetch_34 (fun H locs hP hD hS => ?_)
  refine lv_iload_n hx hb dX4_fetch_37 rfl (lv_at hl 0 rfl) ?_
  exact g_iret hx hb hr rfl hlocks hK x19 hP hD hS (show 0 ≤ x13.toInt ∧ x13.toInt ≤ 255 from by omega) (Nat.le_of_ble_eq_true rfl) (Nat.le_of_ble_eq_true rfl) dX4_fetch_38
set_option maxHeartbeats 4000000 in
set_option maxRecDepth 100000 in
theorem s_X4_fetchSigned (l : Launch) (D : va_G) (dA : Nat → ClassId) (t0 : Nat) (c0 : Nat) (c1 : Nat) (c2 : Nat) (i0 : Int32) (i1 : Int32) (i2 : Int32) (i3 : Int32) (i4 : Int32) (i5 : Int32) (i6 : Int32) (c3 : Nat) (i7 : Int32) (i8 : Int32) (i9 : Int32) (m0 : Nat → Int32) (m1 : Nat → Int32) (m2 : Nat → Int32) (m3 : Nat → Int32) (p0 : 0 ≤ i4.toInt ∧ i4.toInt ≤ 1) (p1 : 0 ≤ i6.toInt ∧ i6.toInt ≤ 1000000) (p2 : 0 ≤ i7.toInt ∧ i7.toInt ≤ 7) (p3 : -1 ≤ i8.toInt ∧ i8.toInt ≤ 7) (p4 : ∀ j : Nat, 0 ≤ (m0 j).toInt ∧ (m0 j).toInt ≤ 255) (sz : Nat) : Met l yX4_fetchSigned (gws yX4_fetchSigned cX4_fetchSigned 1 (some .int)) (gR 2 0 0) (gPre D dA [.ref t0] [(t0, .inr (4, [.ref c0, .ref c1, .ref c2, .int i0, .int i1, .int i2, .int i3, .int i4, .int i5, .int i6, .ref c3, .int i7, .int i8, .int i9])), (c0, .inl (dA 0, 4096, .inl m0)), (c1, .inl (dA 0, 8, .inl m1)), (c2, .inl (dA 0, 4, .inl m2)), (c3, .inl (dA 0, 30, .inl m3))] sz) (va_Qi (fun (r : Int32) (u : Int32) => (-128 ≤ r.toInt ∧ r.toInt ≤ 127)) (gAt D dA (va_A [(t0, .inr (4, [.ref c0, .ref c1, .ref c2, .int i0, .int i1, .int i2, .int i3, .int i4, .int i5, .int i6, .ref c3, .int i7, .int i8, .int i9])), (c0, .inl (dA 0, 4096, .inl m0)), (c1, .inl (dA 0, 8, .inl m1)), (c2, .inl (dA 0, 4, .inl m2)), (c3, .inl (dA 0, 30, .inl m3))] sz) (fun u : Int32 => [(t0, .inr (4, [.ref c0, .ref c1, .ref c2, .int u, .int i1, .int i2, .int i3, .int i4, .int i5, .int i6, .ref c3, .int i7, .int i8, .int i9])), (c0, .inl (dA 0, 4096, .inl m0)), (c1, .inl (dA 0, 8, .inl m1)), (c2, .inl (dA 0, 4, .inl m2)), (c3, .inl (dA 0, 30, .inl m3))])) (va_A [(t0, .inr (4, [.ref c0, .ref c1, .ref c2, .int i0, .int i1, .int i2, .int i3, .int i4, .int i5, .int i6, .ref c3, .int i7, .int i8, .int i9])), (c0, .inl (dA 0, 4096, .inl m0)), (c1, .inl (dA 0, 8, .inl m1)), (c2, .inl (dA 0, 4, .inl m2)), (c3, .inl (dA 0, 30, .inl m3))] sz)) 0 0 (va_A [(t0, .inr (4, [.ref c0, .ref c1, .ref c2, .int i0, .int i1, .int i2, .int i3, .int i4, .int i5, .int i6, .ref c3, .int i7, .int i8, .int i9])), (c0, .inl (dA 0, 4096, .inl m0)), (c1, .inl (dA 0, 8, .inl m1)), (c2, .inl (dA 0, 4, .inl m2)), (c3, .inl (dA 0, 30, .inl m3))] sz) := by
  refine Met.ofW (cc := cX4_fetchSigned) (maxL := 1) (ret := (some .int)) (by decide) rfl ?_
  intro p e s m args below meth c s₁ B hml hv
  obtain ⟨rfl, hsz, hP, hK, hD0⟩ := hv
  have hx := B.exec
  have hb := B.bytes
  have hr := B.returns
  have hts := atoms_spec (ws := gws yX4_fetchSigned cX4_fetchSigned 1 (some .int)) B.pre
  have hg : ∀ w ∈ gw, w.before _ s = true := fun w h => hts w (List.mem_cons_of_mem _ h)
  have hown : s.vm.findClass RX4 = some m.cls := findClass_of_methodNamed B.named
  have hlocks := B.notSynchronized
  subst hsz
  have hD := hD0.self (sz := s.heap.size)
  generalize hAe : va_A [(t0, .inr (4, [.ref c0, .ref c1, .ref c2, .int i0, .int i1, .int i2, .int i3, .int i4, .int i5, .int i6, .ref c3, .int i7, .int i8, .int i9])), (c0, .inl (dA 0, 4096, .inl m0)), (c1, .inl (dA 0, 8, .inl m1)), (c2, .inl (dA 0, 4, .inl m2)), (c3, .inl (dA 0, 30, .inl m3))] s.heap.size = A at hD ⊢
  have hA : ∀ q : Nat, s.heap.size ≤ q → A q := fun q h => by rw [← hAe]; exact Or.inr h
  have hS : va_S A s.heap s.heap [] := va_S.rf
  have hP : va_P D vwC [(t0, .inr (4, [.ref c0, .ref c1, .ref c2, .int i0, .int i1, .int i2, .int i3, .int i4, .int i5, .int i6, .ref c3, .int i7, .int i8, .int i9])), (c0, .inl (dA 0, 4096, .inl m0)), (c1, .inl (dA 0, 8, .inl m1)), (c2, .inl (dA 0, 4, .inl m2)), (c3, .inl (dA 0, 30, .inl m3))] s.heap := hP
  have hl := lv_entry ([.ref t0]) (n := 1) (Nat.le_of_ble_eq_true rfl)
  rw [lg_entry_eq]
  generalize (lg_sl ([.ref t0]) ++ List.replicate (1 - (lg_sl ([.ref t0])).length) Slot.unset).toArray = ls at hl ⊢
  have hl : lv_has ls 1 [(0, .ref t0)] := hl
  refine lv_aload_n hx hb dX4_fetchSigned_0 rfl (lv_at hl 0 rfl) ?_
  refine g_Vi (n := 0) (As := []) (rest := []) (wr := []) hx hb hml hg hown hK hP hD hS hA (s_X4_fetch l D dA t0 c0 c1 c2 i0 i1 i2 i3 i4 i5 i6 c3 i7 i8 i9 m0 m1 m2 m3 (by omega) (by omega) (by omega) (by omega) p4 _) [0, 1, 2, 3, 4] [] rfl (by decide) rfl (by decide) (by decide) 0 rfl rfl q1399 q159 q1396 q1398 q52 (by decide +kernel) ⟨(Nat.le_of_ble_eq_true rfl), (Nat.le_of_ble_eq_true rfl)⟩ rfl hl.1 rfl (Nat.le_of_ble_eq_true rfl) dX4_fetchSigned_1 ⟨(Nat.le_of_ble_eq_true rfl), (Nat.le_of_ble_eq_true rfl)⟩ (fun x2 u1 H locs w3 hP hD hS => ?_)
  refine W.widen (k := 0) (n := 0) (Nat.le_of_ble_eq_true rfl) (Nat.le_of_ble_eq_true rfl) ?_
  obtain ⟨x4, rfl⟩ : ∃ z, z = u1 := ⟨_, rfl⟩
  have hP : va_P D vwC [(t0, .inr (4, [.ref c0, .ref c1, .ref c2, .int x4, .int i1, .int i2, .int i3, .int i4, .int i5, .int i6, .ref c3, .int i7, .int i8, .int i9])), (c0, .inl (dA 0, 4096, .inl m0)), (c1, .inl (dA 0, 8, .inl m1)), (c2, .inl (dA 0, 4, .inl m2)), (c3, .inl (dA 0, 30, .inl m3))] H := hP
  have hD : va_D A [(t0, .inr (4, [.ref c0, .ref c1, .ref c2, .int x4, .int i1, .int i2, .int i3, .int i4, .int i5, .int i6, .ref c3, .int i7, .int i8, .int i9])), (c0, .inl (dA 0, 4096, .inl m0)), (c1, .inl (dA 0, 8, .inl m1)), (c2, .inl (dA 0, 4, .inl m2)), (c3, .inl (dA 0, 30, .inl m3))] := hD
  have g5 := w3
  have g5 : 0 ≤ x2.toInt ∧ x2.toInt ≤ 255 := g5
  refine lv_i2b hx hb dX4_fetchSigned_4 rfl ?_
  refine lv_topi (fun x6 e7 => ?_)
  have g8 : -128 ≤ x6.toInt ∧ x6.toInt ≤ 127 := g_i2b e7
  exact g_iret hx hb hr rfl hlocks hK x4 hP hD hS (show -128 ≤ x6.toInt ∧ x6.toInt ≤ 127 from by omega) (Nat.le_of_ble_eq_true rfl) (Nat.le_of_ble_eq_true rfl) dX4_fetchSigned_5
set_option maxHeartbeats 4000000 in
set_option maxRecDepth 100000 in
theorem s_X4_fetchWord (l : Launch) (D : va_G) (dA : Nat → ClassId) (t0 : Nat) (c0 : Nat) (c1 : Nat) (c2 : Nat) (i0 : Int32) (i1 : Int32) (i2 : Int32) (i3 : Int32) (i4 : Int32) (i5 : Int32) (i6 : Int32) (c3 : Nat) (i7 : Int32) (i8 : Int32) (i9 : Int32) (m0 : Nat → Int32) (m1 : Nat → Int32) (m2 : Nat → Int32) (m3 : Nat → Int32) (p0 : 0 ≤ i4.toInt ∧ i4.toInt ≤ 1) (p1 : 0 ≤ i6.toInt ∧ i6.toInt ≤ 1000000) (p2 : 0 ≤ i7.toInt ∧ i7.toInt ≤ 7) (p3 : -1 ≤ i8.toInt ∧ i8.toInt ≤ 7) (p4 : ∀ j : Nat, 0 ≤ (m0 j).toInt ∧ (m0 j).toInt ≤ 255) (sz : Nat) : Met l yX4_fetchWord (gws yX4_fetchWord cX4_fetchWord 2 (some .int)) (gR 2 0 0) (gPre D dA [.ref t0] [(t0, .inr (4, [.ref c0, .ref c1, .ref c2, .int i0, .int i1, .int i2, .int i3, .int i4, .int i5, .int i6, .ref c3, .int i7, .int i8, .int i9])), (c0, .inl (dA 0, 4096, .inl m0)), (c1, .inl (dA 0, 8, .inl m1)), (c2, .inl (dA 0, 4, .inl m2)), (c3, .inl (dA 0, 30, .inl m3))] sz) (va_Qi (fun (r : Int32) (u : Int32) => True) (gAt D dA (va_A [(t0, .inr (4, [.ref c0, .ref c1, .ref c2, .int i0, .int i1, .int i2, .int i3, .int i4, .int i5, .int i6, .ref c3, .int i7, .int i8, .int i9])), (c0, .inl (dA 0, 4096, .inl m0)), (c1, .inl (dA 0, 8, .inl m1)), (c2, .inl (dA 0, 4, .inl m2)), (c3, .inl (dA 0, 30, .inl m3))] sz) (fun u : Int32 => [(t0, .inr (4, [.ref c0, .ref c1, .ref c2, .int u, .int i1, .int i2, .int i3, .int i4, .int i5, .int i6, .ref c3, .int i7, .int i8, .int i9])), (c0, .inl (dA 0, 4096, .inl m0)), (c1, .inl (dA 0, 8, .inl m1)), (c2, .inl (dA 0, 4, .inl m2)), (c3, .inl (dA 0, 30, .inl m3))])) (va_A [(t0, .inr (4, [.ref c0, .ref c1, .ref c2, .int i0, .int i1, .int i2, .int i3, .int i4, .int i5, .int i6, .ref c3, .int i7, .int i8, .int i9])), (c0, .inl (dA 0, 4096, .inl m0)), (c1, .inl (dA 0, 8, .inl m1)), (c2, .inl (dA 0, 4, .inl m2)), (c3, .inl (dA 0, 30, .inl m3))] sz)) 0 0 (va_A [(t0, .inr (4, [.ref c0, .ref c1, .ref c2, .int i0, .int i1, .int i2, .int i3, .int i4, .int i5, .int i6, .ref c3, .int i7, .int i8, .int i9])), (c0, .inl (dA 0, 4096, .inl m0)), (c1, .inl (dA 0, 8, .inl m1)), (c2, .inl (dA 0, 4, .inl m2)), (c3, .inl (dA 0, 30, .inl m3))] sz) := by
  refine Met.ofW (cc := cX4_fetchWord) (maxL := 2) (ret := (some .int)) (by decide) rfl ?_
  intro p e s m args below meth c s₁ B hml hv
  obtain ⟨rfl, hsz, hP, hK, hD0⟩ := hv
  have hx := B.exec
  have hb := B.bytes
  have hr := B.returns
  have hts := atoms_spec (ws := gws yX4_fetchWord cX4_fetchWord 2 (some .int)) B.pre
  have hg : ∀ w ∈ gw, w.before _ s = true := fun w h => hts w (List.mem_cons_of_mem _ h)
  have hown : s.vm.findClass RX4 = some m.cls := findClass_of_methodNamed B.named
  have hlocks := B.notSynchronized
  subst hsz
  have hD := hD0.self (sz := s.heap.size)
  generalize hAe : va_A [(t0, .inr (4, [.ref c0, .ref c1, .ref c2, .int i0, .int i1, .int i2, .int i3, .int i4, .int i5, .int i6, .ref c3, .int i7, .int i8, .int i9])), (c0, .inl (dA 0, 4096, .inl m0)), (c1, .inl (dA 0, 8, .inl m1)), (c2, .inl (dA 0, 4, .inl m2)), (c3, .inl (dA 0, 30, .inl m3))] s.heap.size = A at hD ⊢
  have hA : ∀ q : Nat, s.heap.size ≤ q → A q := fun q h => by rw [← hAe]; exact Or.inr h
  have hS : va_S A s.heap s.heap [] := va_S.rf
  have hP : va_P D vwC [(t0, .inr (4, [.ref c0, .ref c1, .ref c2, .int i0, .int i1, .int i2, .int i3, .int i4, .int i5, .int i6, .ref c3, .int i7, .int i8, .int i9])), (c0, .inl (dA 0, 4096, .inl m0)), (c1, .inl (dA 0, 8, .inl m1)), (c2, .inl (dA 0, 4, .inl m2)), (c3, .inl (dA 0, 30, .inl m3))] s.heap := hP
  have hl := lv_entry ([.ref t0]) (n := 2) (Nat.le_of_ble_eq_true rfl)
  rw [lg_entry_eq]
  generalize (lg_sl ([.ref t0]) ++ List.replicate (2 - (lg_sl ([.ref t0])).length) Slot.unset).toArray = ls at hl ⊢
  have hl : lv_has ls 2 [(0, .ref t0)] := hl
  refine lv_aload_n hx hb dX4_fetchWord_0 rfl (lv_at hl 0 rfl) ?_
  refine g_Vi (n := 0) (As := []) (rest := []) (wr := []) hx hb hml hg hown hK hP hD hS hA (s_X4_fetch l D dA t0 c0 c1 c2 i0 i1 i2 i3 i4 i5 i6 c3 i7 i8 i9 m0 m1 m2 m3 (by omega) (by omega) (by omega) (by omega) p4 _) [0, 1, 2, 3, 4] [] rfl (by decide) rfl (by decide) (by decide) 0 rfl rfl q1399 q159 q1396 q1398 q52 (by decide +kernel) ⟨(Nat.le_of_ble_eq_true rfl), (Nat.le_of_ble_eq_true rfl)⟩ rfl hl.1 rfl (Nat.le_of_ble_eq_true rfl) dX4_fetchWord_1 ⟨(Nat.le_of_ble_eq_true rfl), (Nat.le_of_ble_eq_true rfl)⟩ (fun x2 u1 H locs w3 hP hD hS => ?_)
  refine W.widen (k := 0) (n := 0) (Nat.le_of_ble_eq_true rfl) (Nat.le_of_ble_eq_true rfl) ?_
  obtain ⟨x4, rfl⟩ : ∃ z, z = u1 := ⟨_, rfl⟩
  have hP : va_P D vwC [(t0, .inr (4, [.ref c0, .ref c1, .ref c2, .int x4, .int i1, .int i2, .int i3, .int i4, .int i5, .int i6, .ref c3, .int i7, .int i8, .int i9])), (c0, .inl (dA 0, 4096, .inl m0)), (c1, .inl (dA 0, 8, .inl m1)), (c2, .inl (dA 0, 4, .inl m2)), (c3, .inl (dA 0, 30, .inl m3))] H := hP
  have hD : va_D A [(t0, .inr (4, [.ref c0, .ref c1, .ref c2, .int x4, .int i1, .int i2, .int i3, .int i4, .int i5, .int i6, .ref c3, .int i7, .int i8, .int i9])), (c0, .inl (dA 0, 4096, .inl m0)), (c1, .inl (dA 0, 8, .inl m1)), (c2, .inl (dA 0, 4, .inl m2)), (c3, .inl (dA 0, 30, .inl m3))] := hD
  have g5 := w3
  have g5 : 0 ≤ x2.toInt ∧ x2.toInt ≤ 255 := g5
  refine lv_istore_n (lv' := [(1, .int x2), (0, .ref t0)]) hx hb dX4_fetchWord_4 rfl hl (by decide) rfl (fun ls hl => ?_)
  refine lv_iload_n hx hb dX4_fetchWord_5 rfl (lv_at hl 0 rfl) ?_
  refine lv_sipush (v := 256) hx hb dX4_fetchWord_6 (by decide) ?_
  refine lv_aload_n hx hb dX4_fetchWord_9 rfl (lv_at hl 1 rfl) ?_
  refine g_Vi (n := 0) (As := []) (rest := [.int 256, .int x2]) (wr := []) hx hb hml hg hown hK hP hD hS hA (s_X4_fetch l D dA t0 c0 c1 c2 x4 i1 i2 i3 i4 i5 i6 c3 i7 i8 i9 m0 m1 m2 m3 (by omega) (by omega) (by omega) (by omega) p4 _) [0, 1, 2, 3, 4] [] rfl (by decide) rfl (by decide) (by decide) 0 rfl rfl q1399 q159 q1396 q1398 q52 (by decide +kernel) ⟨(Nat.le_of_ble_eq_true rfl), (Nat.le_of_ble_eq_true rfl)⟩ rfl hl.1 rfl (Nat.le_of_ble_eq_true rfl) dX4_fetchWord_10 ⟨(Nat.le_of_ble_eq_true rfl), (Nat.le_of_ble_eq_true rfl)⟩ (fun x7 u6 H locs w8 hP hD hS => ?_)
  refine W.widen (k := 0) (n := 0) (Nat.le_of_ble_eq_true rfl) (Nat.le_of_ble_eq_true rfl) ?_
  obtain ⟨x9, rfl⟩ : ∃ z, z = u6 := ⟨_, rfl⟩
  have hP : va_P D vwC [(t0, .inr (4, [.ref c0, .ref c1, .ref c2, .int x9, .int i1, .int i2, .int i3, .int i4, .int i5, .int i6, .ref c3, .int i7, .int i8, .int i9])), (c0, .inl (dA 0, 4096, .inl m0)), (c1, .inl (dA 0, 8, .inl m1)), (c2, .inl (dA 0, 4, .inl m2)), (c3, .inl (dA 0, 30, .inl m3))] H := hP
  have hD : va_D A [(t0, .inr (4, [.ref c0, .ref c1, .ref c2, .int x9, .int i1, .int i2, .int i3, .int i4, .int i5, .int i6, .ref c3, .int i7, .int i8, .int i9])), (c0, .inl (dA 0, 4096, .inl m0)), (c1, .inl (dA 0, 8, .inl m1)), (c2, .inl (dA 0, 4, .inl m2)), (c3, .inl (dA 0, 30, .inl m3))] := hD
  have g10 := w8
  have g10 : 0 ≤ x7.toInt ∧ x7.toInt ≤ 255 := g10
  refine lv_imul hx hb dX4_fetchWord_13 ?_
  refine lv_topi (fun x11 e12 => ?_)
  have g13 : x11.toInt = 256 * x7.toInt := g_mul e12 (by decide) rfl (by omega) (by omega)
  refine lv_iadd hx hb dX4_fetchWord_14 ?_
  refine lv_topi (fun x14 e15 => ?_)
  have g16 : x14.toInt = x2.toInt + x11.toInt := g_add e15 rfl rfl (by omega) (by omega)
  exact g_iret hx hb hr rfl hlocks hK x9 hP hD hS trivial (Nat.le_of_ble_eq_true rfl) (Nat.le_of_ble_eq_true rfl) dX4_fetchWord_15
set_option maxHeartbeats 4000000 in
set_option maxRecDepth 100000 in
theorem s_X4_jump (l : Launch) (D : va_G) (dA : Nat → ClassId) (t0 : Nat) (a0 : Int32) (c0 : Nat) (c1 : Nat) (c2 : Nat) (i0 : Int32) (i1 : Int32) (i2 : Int32) (i3 : Int32) (i4 : Int32) (i5 : Int32) (i6 : Int32) (c3 : Nat) (i7 : Int32) (i8 : Int32) (i9 : Int32) (m0 : Nat → Int32) (m1 : Nat → Int32) (m2 : Nat → Int32) (m3 : Nat → Int32) (p0 : 0 ≤ i4.toInt ∧ i4.toInt ≤ 1) (p1 : 0 ≤ i6.toInt ∧ i6.toInt ≤ 1000000) (p2 : 0 ≤ i7.toInt ∧ i7.toInt ≤ 7) (p3 : -1 ≤ i8.toInt ∧ i8.toInt ≤ 7) (p4 : ∀ j : Nat, 0 ≤ (m0 j).toInt ∧ (m0 j).toInt ≤ 255) (sz : Nat) : Met l yX4_jump (gws yX4_jump cX4_jump 2 none) (gR 1 0 0) (gPre D dA [.ref t0, .int a0] [(t0, .inr (4, [.ref c0, .ref c1, .ref c2, .int i0, .int i1, .int i2, .int i3, .int i4, .int i5, .int i6, .ref c3, .int i7, .int i8, .int i9])), (c0, .inl (dA 0, 4096, .inl m0)), (c1, .inl (dA 0, 8, .inl m1)), (c2, .inl (dA 0, 4, .inl m2)), (c3, .inl (dA 0, 30, .inl m3))] sz) (va_Qv (fun u : Int32 => True) (gAt D dA (va_A [(t0, .inr (4, [.ref c0, .ref c1, .ref c2, .int i0, .int i1, .int i2, .int i3, .int i4, .int i5, .int i6, .ref c3, .int i7, .int i8, .int i9])), (c0, .inl (dA 0, 4096, .inl m0)), (c1, .inl (dA 0, 8, .inl m1)), (c2, .inl (dA 0, 4, .inl m2)), (c3, .inl (dA 0, 30, .inl m3))] sz) (fun u : Int32 => [(t0, .inr (4, [.ref c0, .ref c1, .ref c2, .int u, .int i1, .int i2, .int i3, .int i4, .int i5, .int i6, .ref c3, .int i7, .int i8, .int i9])), (c0, .inl (dA 0, 4096, .inl m0)), (c1, .inl (dA 0, 8, .inl m1)), (c2, .inl (dA 0, 4, .inl m2)), (c3, .inl (dA 0, 30, .inl m3))])) (va_A [(t0, .inr (4, [.ref c0, .ref c1, .ref c2, .int i0, .int i1, .int i2, .int i3, .int i4, .int i5, .int i6, .ref c3, .int i7, .int i8, .int i9])), (c0, .inl (dA 0, 4096, .inl m0)), (c1, .inl (dA 0, 8, .inl m1)), (c2, .inl (dA 0, 4, .inl m2)), (c3, .inl (dA 0, 30, .inl m3))] sz)) 0 0 (va_A [(t0, .inr (4, [.ref c0, .ref c1, .ref c2, .int i0, .int i1, .int i2, .int i3, .int i4, .int i5, .int i6, .ref c3, .int i7, .int i8, .int i9])), (c0, .inl (dA 0, 4096, .inl m0)), (c1, .inl (dA 0, 8, .inl m1)), (c2, .inl (dA 0, 4, .inl m2)), (c3, .inl (dA 0, 30, .inl m3))] sz) := by
  refine Met.ofW (cc := cX4_jump) (maxL := 2) (ret := none) (by decide) rfl ?_
  intro p e s m args below meth c s₁ B hml hv
  obtain ⟨rfl, hsz, hP, hK, hD0⟩ := hv
  have hx := B.exec
  have hb := B.bytes
  have hr := B.returns
  have hts := atoms_spec (ws := gws yX4_jump cX4_jump 2 none) B.pre
  have hg : ∀ w ∈ gw, w.before _ s = true := fun w h => hts w (List.mem_cons_of_mem _ h)
  have hown : s.vm.findClass RX4 = some m.cls := findClass_of_methodNamed B.named
  have hlocks := B.notSynchronized
  subst hsz
  have hD := hD0.self (sz := s.heap.size)
  generalize hAe : va_A [(t0, .inr (4, [.ref c0, .ref c1, .ref c2, .int i0, .int i1, .int i2, .int i3, .int i4, .int i5, .int i6, .ref c3, .int i7, .int i8, .int i9])), (c0, .inl (dA 0, 4096, .inl m0)), (c1, .inl (dA 0, 8, .inl m1)), (c2, .inl (dA 0, 4, .inl m2)), (c3, .inl (dA 0, 30, .inl m3))] s.heap.size = A at hD ⊢
  have hA : ∀ q : Nat, s.heap.size ≤ q → A q := fun q h => by rw [← hAe]; exact Or.inr h
  have hS : va_S A s.heap s.heap [] := va_S.rf
  have hP : va_P D vwC [(t0, .inr (4, [.ref c0, .ref c1, .ref c2, .int i0, .int i1, .int i2, .int i3, .int i4, .int i5, .int i6, .ref c3, .int i7, .int i8, .int i9])), (c0, .inl (dA 0, 4096, .inl m0)), (c1, .inl (dA 0, 8, .inl m1)), (c2, .inl (dA 0, 4, .inl m2)), (c3, .inl (dA 0, 30, .inl m3))] s.heap := hP
  have hl := lv_entry ([.ref t0, .int a0]) (n := 2) (Nat.le_of_ble_eq_true rfl)
  rw [lg_entry_eq]
  generalize (lg_sl ([.ref t0, .int a0]) ++ List.replicate (2 - (lg_sl ([.ref t0, .int a0])).length) Slot.unset).toArray = ls at hl ⊢
  have hl : lv_has ls 2 [(0, .ref t0), (1, .int a0)] := hl
  refine lv_aload_n hx hb dX4_jump_0 rfl (lv_at hl 0 rfl) ?_
  refine lv_aload_n hx hb dX4_jump_1 rfl (lv_at hl 0 rfl) ?_
  refine g_get hx hb hg hown hK hP 0 rfl rfl inX4 3 (by decide) q558 rfl dX4_jump_2 ?_
  refine lv_iload_n hx hb dX4_jump_5 rfl (lv_at hl 1 rfl) ?_
  refine lv_iadd hx hb dX4_jump_6 ?_
  have g1 := g_i32 i0
  have g2 := g_i32 a0
  refine lv_topi (fun x3 e4 => ?_)
  refine lv_ldc hx hb hown (hg _ q1400) dX4_jump_7 ?_
  refine lv_iand hx hb dX4_jump_9 ?_
  refine lv_topi (fun x5 e6 => ?_)
  have g7 : 0 ≤ x5.toInt ∧ x5.toInt ≤ 65535 := g_msk e6 16 (by decide) (by decide) (by decide)
  refine g_put (w' := [(t0, .inr (4, [.ref c0, .ref c1, .ref c2, .int x5, .int i1, .int i2, .int i3, .int i4, .int i5, .int i6, .ref c3, .int i7, .int i8, .int i9])), (c0, .inl (dA 0, 4096, .inl m0)), (c1, .inl (dA 0, 8, .inl m1)), (c2, .inl (dA 0, 4, .inl m2)), (c3, .inl (dA 0, 30, .inl m3))]) hx hb hg hown hK hP hD hS 0 rfl rfl inX4 tyX4_ok nmX4 3 (by decide) q558 rfl rfl rfl (Nat.le_of_ble_eq_true rfl) rfl dX4_jump_10 (fun H locs hP hD hS => ?_)
  exact g_vret hx hb hr hlocks hK x5 hP hD hS trivial (Nat.le_of_ble_eq_true rfl) (Nat.le_of_ble_eq_true rfl) dX4_jump_13
set_option maxHeartbeats 4000000 in
set_option maxRecDepth 100000 in
theorem s_X4_push (l : Launch) (D : va_G) (dA : Nat → ClassId) (t0 : Nat) (a0 : Int32) (c0 : Nat) (c1 : Nat) (c2 : Nat) (i0 : Int32) (i1 : Int32) (i2 : Int32) (i3 : Int32) (i4 : Int32) (i5 : Int32) (i6 : Int32) (c3 : Nat) (i7 : Int32) (i8 : Int32) (i9 : Int32) (m0 : Nat → Int32) (m1 : Nat → Int32) (m2 : Nat → Int32) (m3 : Nat → Int32) (p0 : 0 ≤ i4.toInt ∧ i4.toInt ≤ 1) (p1 : 0 ≤ i6.toInt ∧ i6.toInt ≤ 1000000) (p2 : 0 ≤ i7.toInt ∧ i7.toInt ≤ 7) (p3 : -1 ≤ i8.toInt ∧ i8.toInt ≤ 7) (p4 : ∀ j : Nat, 0 ≤ (m0 j).toInt ∧ (m0 j).toInt ≤ 255) (sz : Nat) : Met l yX4_push (gws yX4_push cX4_push 2 none) (gR 2 0 0) (gPre D dA [.ref t0, .int a0] [(t0, .inr (4, [.ref c0, .ref c1, .ref c2, .int i0, .int i1, .int i2, .int i3, .int i4, .int i5, .int i6, .ref c3, .int i7, .int i8, .int i9])), (c0, .inl (dA 0, 4096, .inl m0)), (c1, .inl (dA 0, 8, .inl m1)), (c2, .inl (dA 0, 4, .inl m2)), (c3, .inl (dA 0, 30, .inl m3))] sz) (va_Qv (fun u : (Nat → Int32) × (Nat → Int32) => (∀ j : Nat, 0 ≤ (u.1 j).toInt ∧ (u.1 j).toInt ≤ 255)) (gAt D dA (va_A [(t0, .inr (4, [.ref c0, .ref c1, .ref c2, .int i0, .int i1, .int i2, .int i3, .int i4, .int i5, .int i6, .ref c3, .int i7, .int i8, .int i9])), (c0, .inl (dA 0, 4096, .inl m0)), (c1, .inl (dA 0, 8, .inl m1)), (c2, .inl (dA 0, 4, .inl m2)), (c3, .inl (dA 0, 30, .inl m3))] sz) (fun u : (Nat → Int32) × (Nat → Int32) => [(t0, .inr (4, [.ref c0, .ref c1, .ref c2, .int i0, .int i1, .int i2, .int i3, .int i4, .int i5, .int i6, .ref c3, .int i7, .int i8, .int i9])), (c0, .inl (dA 0, 4096, .inl (u.1))), (c1, .inl (dA 0, 8, .inl (u.2))), (c2, .inl (dA 0, 4, .inl m2)), (c3, .inl (dA 0, 30, .inl m3))])) (va_A [(t0, .inr (4, [.ref c0, .ref c1, .ref c2, .int i0, .int i1, .int i2, .int i3, .int i4, .int i5, .int i6, .ref c3, .int i7, .int i8, .int i9])), (c0, .inl (dA 0, 4096, .inl m0)), (c1, .inl (dA 0, 8, .inl m1)), (c2, .inl (dA 0, 4, .inl m2)), (c3, .inl (dA 0, 30, .inl m3))] sz)) 0 0 (va_A [(t0, .inr (4, [.ref c0, .ref c1, .ref c2, .int i0, .int i1, .int i2, .int i3, .int i4, .int i5, .int i6, .ref c3, .int i7, .int i8, .int i9])), (c0, .inl (dA 0, 4096, .inl m0)), (c1, .inl (dA 0, 8, .inl m1)), (c2, .inl (dA 0, 4, .inl m2)), (c3, .inl (dA 0, 30, .inl m3))] sz) := by
  refine Met.ofW (cc := cX4_push) (maxL := 2) (ret := none) (by decide) rfl ?_
  intro p e s m args below meth c s₁ B hml hv
  obtain ⟨rfl, hsz, hP, hK, hD0⟩ := hv
  have hx := B.exec
  have hb := B.bytes
  have hr := B.returns
  have hts := atoms_spec (ws := gws yX4_push cX4_push 2 none) B.pre
  have hg : ∀ w ∈ gw, w.before _ s = true := fun w h => hts w (List.mem_cons_of_mem _ h)
  have hown : s.vm.findClass RX4 = some m.cls := findClass_of_methodNamed B.named
  have hlocks := B.notSynchronized
  subst hsz
  have hD := hD0.self (sz := s.heap.size)
  generalize hAe : va_A [(t0, .inr (4, [.ref c0, .ref c1, .ref c2, .int i0, .int i1, .int i2, .int i3, .int i4, .int i5, .int i6, .ref c3, .int i7, .int i8, .int i9])), (c0, .inl (dA 0, 4096, .inl m0)), (c1, .inl (dA 0, 8, .inl m1)), (c2, .inl (dA 0, 4, .inl m2)), (c3, .inl (dA 0, 30, .inl m3))] s.heap.size = A at hD ⊢
  have hA : ∀ q : Nat, s.heap.size ≤ q → A q := fun q h => by rw [← hAe]; exact Or.inr h
  have hS : va_S A s.heap s.heap [] := va_S.rf
  have hP : va_P D vwC [(t0, .inr (4, [.ref c0, .ref c1, .ref c2, .int i0, .int i1, .int i2, .int i3, .int i4, .int i5, .int i6, .ref c3, .int i7, .int i8, .int i9])), (c0, .inl (dA 0, 4096, .inl m0)), (c1, .inl (dA 0, 8, .inl m1)), (c2, .inl (dA 0, 4, .inl m2)), (c3, .inl (dA 0, 30, .inl m3))] s.heap := hP
  have hl := lv_entry ([.ref t0, .int a0]) (n := 2) (Nat.le_of_ble_eq_true rfl)
  rw [lg_entry_eq]
  generalize (lg_sl ([.ref t0, .int a0]) ++ List.replicate (2 - (lg_sl ([.ref t0, .int a0])).length) Slot.unset).toArray = ls at hl ⊢
  have hl : lv_has ls 2 [(0, .ref t0), (1, .int a0)] := hl
  refine lv_aload_n hx hb dX4_push_0 rfl (lv_at hl 0 rfl) ?_
  refine g_get hx hb hg hown hK hP 0 rfl rfl inX4 1 (by decide) q554 rfl dX4_push_1 ?_
  refine lv_iconst (v := 4) hx hb dX4_push_4 (by decide) ?_
  refine lv_aload_n hx hb dX4_push_5 rfl (lv_at hl 0 rfl) ?_
  refine g_get hx hb hg hown hK hP 0 rfl rfl inX4 1 (by decide) q554 rfl dX4_push_6 ?_
  refine lv_iconst (v := 4) hx hb dX4_push_9 (by decide) ?_
  refine va_iald hx hb hK hP 2 0 rfl rfl (by unfold vp_in; decide) dX4_push_10 ?_
  refine lv_topi (fun x1 e2 => ?_)
  refine lv_iconst (v := 2) hx hb dX4_push_11 (by decide) ?_
  refine lv_isub hx hb dX4_push_12 ?_
  have g3 := g_i32 x1
  refine lv_topi (fun x4 e5 => ?_)
  refine lv_ldc hx hb hown (hg _ q1400) dX4_push_13 ?_
  refine lv_iand hx hb dX4_push_15 ?_
  refine lv_topi (fun x6 e7 => ?_)
  have g8 : 0 ≤ x6.toInt ∧ x6.toInt ≤ 65535 := g_msk e7 16 (by decide) (by decide) (by decide)
  refine va_iast hx hb hK hP hD hS 2 0 rfl rfl (by unfold vp_in; decide) dX4_push_16 (fun H locs hP hD hS => ?_)
  have hP : va_P D vwC [(t0, .inr (4, [.ref c0, .ref c1, .ref c2, .int i0, .int i1, .int i2, .int i3, .int i4, .int i5, .int i6, .ref c3, .int i7, .int i8, .int i9])), (c0, .inl (dA 0, 4096, .inl m0)), (c1, .inl (dA 0, 8, .inl (upd m1 (4 : Int32).toNatClampNeg x6))), (c2, .inl (dA 0, 4, .inl m2)), (c3, .inl (dA 0, 30, .inl m3))] H := hP
  have hD : va_D A [(t0, .inr (4, [.ref c0, .ref c1, .ref c2, .int i0, .int i1, .int i2, .int i3, .int i4, .int i5, .int i6, .ref c3, .int i7, .int i8, .int i9])), (c0, .inl (dA 0, 4096, .inl m0)), (c1, .inl (dA 0, 8, .inl (upd m1 (4 : Int32).toNatClampNeg x6))), (c2, .inl (dA 0, 4, .inl m2)), (c3, .inl (dA 0, 30, .inl m3))] := hD
  obtain ⟨f9, ef9⟩ : ∃ f : Nat → Int32, f = (upd m1 (4 : Int32).toNatClampNeg x6) := ⟨_, rfl⟩
  rw [← ef9] at hP hD
  refine lv_aload_n hx hb dX4_push_17 rfl (lv_at hl 0 rfl) ?_
  refine lv_bipush (v := 16) hx hb dX4_push_18 (by decide) ?_
  refine lv_aload_n hx hb dX4_push_20 rfl (lv_at hl 0 rfl) ?_
  refine g_get hx hb hg hown hK hP 0 rfl rfl inX4 2 (by decide) q556 rfl dX4_push_21 ?_
  refine lv_iconst (v := 2) hx hb dX4_push_24 (by decide) ?_
  refine va_iald hx hb hK hP 3 0 rfl rfl (by unfold vp_in; decide) dX4_push_25 ?_
  refine lv_topi (fun x10 e11 => ?_)
  refine lv_imul hx hb dX4_push_26 ?_
  have g12 := g_i32 x10
  refine lv_topi (fun x13 e14 => ?_)
  refine lv_aload_n hx hb dX4_push_27 rfl (lv_at hl 0 rfl) ?_
  refine g_get hx hb hg hown hK hP 0 rfl rfl inX4 1 (by decide) q554 rfl dX4_push_28 ?_
  refine lv_iconst (v := 4) hx hb dX4_push_31 (by decide) ?_
  refine va_iald hx hb hK hP 2 0 rfl rfl (by unfold vp_in; decide) dX4_push_32 ?_
  refine lv_topi (fun x15 e16 => ?_)
  refine lv_iadd hx hb dX4_push_33 ?_
  have g17 := g_i32 x13
  have g18 := g_i32 x15
  refine lv_topi (fun x19 e20 => ?_)
  refine lv_iload_n hx hb dX4_push_34 rfl (lv_at hl 1 rfl) ?_
  refine g_Vv (n := 2) (As := [.int x19, .int a0]) (rest := []) (wr := []) hx hb hml hg hown hK hP hD hS hA (s_X4_putWord l D dA t0 x19 a0 c0 c1 c2 i0 i1 i2 i3 i4 i5 i6 c3 i7 i8 i9 m0 f9 m2 m3 (by omega) (by omega) (by omega) (by omega) p4 _) [0, 1, 2, 3, 4] [] rfl (by decide) rfl (by decide) (by decide) 0 rfl rfl q1382 q159 q1379 q1381 q51 (by decide +kernel) ⟨(Nat.le_of_ble_eq_true rfl), (Nat.le_of_ble_eq_true rfl)⟩ rfl hl.1 rfl (Nat.le_of_ble_eq_true rfl) dX4_push_35 ⟨(Nat.le_of_ble_eq_true rfl), (Nat.le_of_ble_eq_true rfl)⟩ (fun u21 H locs w23 hP hD hS => ?_)
  refine W.widen (k := 0) (n := 0) (Nat.le_of_ble_eq_true rfl) (Nat.le_of_ble_eq_true rfl) ?_
  obtain ⟨f24, rfl⟩ : ∃ z, z = u21 := ⟨_, rfl⟩
  have hP : va_P D vwC [(t0, .inr (4, [.ref c0, .ref c1, .ref c2, .int i0, .int i1, .int i2, .int i3, .int i4, .int i5, .int i6, .ref c3, .int i7, .int i8, .int i9])), (c0, .inl (dA 0, 4096, .inl f24)), (c1, .inl (dA 0, 8, .inl f9)), (c2, .inl (dA 0, 4, .inl m2)), (c3, .inl (dA 0, 30, .inl m3))] H := hP
  have hD : va_D A [(t0, .inr (4, [.ref c0, .ref c1, .ref c2, .int i0, .int i1, .int i2, .int i3, .int i4, .int i5, .int i6, .ref c3, .int i7, .int i8, .int i9])), (c0, .inl (dA 0, 4096, .inl f24)), (c1, .inl (dA 0, 8, .inl f9)), (c2, .inl (dA 0, 4, .inl m2)), (c3, .inl (dA 0, 30, .inl m3))] := hD
  have g25 := w23
  have g25 : ∀ j : Nat, 0 ≤ (f24 j).toInt ∧ (f24 j).toInt ≤ 255 := g25
  exact g_vret hx hb hr hlocks hK (f24, f9) hP hD hS g25 (Nat.le_of_ble_eq_true rfl) (Nat.le_of_ble_eq_true rfl) dX4_push_38
set_option maxHeartbeats 4000000 in
set_option maxRecDepth 100000 in
theorem s_X4_pop (l : Launch) (D : va_G) (dA : Nat → ClassId) (t0 : Nat) (c0 : Nat) (c1 : Nat) (c2 : Nat) (i0 : Int32) (i1 : Int32) (i2 : Int32) (i3 : Int32) (i4 : Int32) (i5 : Int32) (i6 : Int32) (c3 : Nat) (i7 : Int32) (i8 : Int32) (i9 : Int32) (m0 : Nat → Int32) (m1 : Nat → Int32) (m2 : Nat → Int32) (m3 : Nat → Int32) (p0 : 0 ≤ i4.toInt ∧ i4.toInt ≤ 1) (p1 : 0 ≤ i6.toInt ∧ i6.toInt ≤ 1000000) (p2 : 0 ≤ i7.toInt ∧ i7.toInt ≤ 7) (p3 : -1 ≤ i8.toInt ∧ i8.toInt ≤ 7) (p4 : ∀ j : Nat, 0 ≤ (m0 j).toInt ∧ (m0 j).toInt ≤ 255) (sz : Nat) : Met l yX4_pop (gws yX4_pop cX4_pop 2 (some .int)) (gR 2 0 0) (gPre D dA [.ref t0] [(t0, .inr (4, [.ref c0, .ref c1, .ref c2, .int i0, .int i1, .int i2, .int i3, .int i4, .int i5, .int i6, .ref c3, .int i7, .int i8, .int i9])), (c0, .inl (dA 0, 4096, .inl m0)), (c1, .inl (dA 0, 8, .inl m1)), (c2, .inl (dA 0, 4, .inl m2)), (c3, .inl (dA 0, 30, .inl m3))] sz) (va_Qi (fun (r : Int32) (u : (Nat → Int32)) => True) (gAt D dA (va_A [(t0, .inr (4, [.ref c0, .ref c1, .ref c2, .int i0, .int i1, .int i2, .int i3, .int i4, .int i5, .int i6, .ref c3, .int i7, .int i8, .int i9])), (c0, .inl (dA 0, 4096, .inl m0)), (c1, .inl (dA 0, 8, .inl m1)), (c2, .inl (dA 0, 4, .inl m2)), (c3, .inl (dA 0, 30, .inl m3))] sz) (fun u : (Nat → Int32) => [(t0, .inr (4, [.ref c0, .ref c1, .ref c2, .int i0, .int i1, .int i2, .int i3, .int i4, .int i5, .int i6, .ref c3, .int i7, .int i8, .int i9])), (c0, .inl (dA 0, 4096, .inl m0)), (c1, .inl (dA 0, 8, .inl u)), (c2, .inl (dA 0, 4, .inl m2)), (c3, .inl (dA 0, 30, .inl m3))])) (va_A [(t0, .inr (4, [.ref c0, .ref c1, .ref c2, .int i0, .int i1, .int i2, .int i3, .int i4, .int i5, .int i6, .ref c3, .int i7, .int i8, .int i9])), (c0, .inl (dA 0, 4096, .inl m0)), (c1, .inl (dA 0, 8, .inl m1)), (c2, .inl (dA 0, 4, .inl m2)), (c3, .inl (dA 0, 30, .inl m3))] sz)) 0 0 (va_A [(t0, .inr (4, [.ref c0, .ref c1, .ref c2, .int i0, .int i1, .int i2, .int i3, .int i4, .int i5, .int i6, .ref c3, .int i7, .int i8, .int i9])), (c0, .inl (dA 0, 4096, .inl m0)), (c1, .inl (dA 0, 8, .inl m1)), (c2, .inl (dA 0, 4, .inl m2)), (c3, .inl (dA 0, 30, .inl m3))] sz) := by
  refine Met.ofW (cc := cX4_pop) (maxL := 2) (ret := (some .int)) (by decide) rfl ?_
  intro p e s m args below meth c s₁ B hml hv
  obtain ⟨rfl, hsz, hP, hK, hD0⟩ := hv
  have hx := B.exec
  have hb := B.bytes
  have hr := B.returns
  have hts := atoms_spec (ws := gws yX4_pop cX4_pop 2 (some .int)) B.pre
  have hg : ∀ w ∈ gw, w.before _ s = true := fun w h => hts w (List.mem_cons_of_mem _ h)
  have hown : s.vm.findClass RX4 = some m.cls := findClass_of_methodNamed B.named
  have hlocks := B.notSynchronized
  subst hsz
  have hD := hD0.self (sz := s.heap.size)
  generalize hAe : va_A [(t0, .inr (4, [.ref c0, .ref c1, .ref c2, .int i0, .int i1, .int i2, .int i3, .int i4, .int i5, .int i6, .ref c3, .int i7, .int i8, .int i9])), (c0, .inl (dA 0, 4096, .inl m0)), (c1, .inl (dA 0, 8, .inl m1)), (c2, .inl (dA 0, 4, .inl m2)), (c3, .inl (dA 0, 30, .inl m3))] s.heap.size = A at hD ⊢
  have hA : ∀ q : Nat, s.heap.size ≤ q → A q := fun q h => by rw [← hAe]; exact Or.inr h
  have hS : va_S A s.heap s.heap [] := va_S.rf
  have hP : va_P D vwC [(t0, .inr (4, [.ref c0, .ref c1, .ref c2, .int i0, .int i1, .int i2, .int i3, .int i4, .int i5, .int i6, .ref c3, .int i7, .int i8, .int i9])), (c0, .inl (dA 0, 4096, .inl m0)), (c1, .inl (dA 0, 8, .inl m1)), (c2, .inl (dA 0, 4, .inl m2)), (c3, .inl (dA 0, 30, .inl m3))] s.heap := hP
  have hl := lv_entry ([.ref t0]) (n := 2) (Nat.le_of_ble_eq_true rfl)
  rw [lg_entry_eq]
  generalize (lg_sl ([.ref t0]) ++ List.replicate (2 - (lg_sl ([.ref t0])).length) Slot.unset).toArray = ls at hl ⊢
  have hl : lv_has ls 2 [(0, .ref t0)] := hl
  refine lv_aload_n hx hb dX4_pop_0 rfl (lv_at hl 0 rfl) ?_
  refine lv_bipush (v := 16) hx hb dX4_pop_1 (by decide) ?_
  refine lv_aload_n hx hb dX4_pop_3 rfl (lv_at hl 0 rfl) ?_
  refine g_get hx hb hg hown hK hP 0 rfl rfl inX4 2 (by decide) q556 rfl dX4_pop_4 ?_
  refine lv_iconst (v := 2) hx hb dX4_pop_7 (by decide) ?_
  refine va_iald hx hb hK hP 3 0 rfl rfl (by unfold vp_in; decide) dX4_pop_8 ?_
  refine lv_topi (fun x1 e2 => ?_)
  refine lv_imul hx hb dX4_pop_9 ?_
  have g3 := g_i32 x1
  refine lv_topi (fun x4 e5 => ?_)
  refine lv_aload_n hx hb dX4_pop_10 rfl (lv_at hl 0 rfl) ?_
  refine g_get hx hb hg hown hK hP 0 rfl rfl inX4 1 (by decide) q554 rfl dX4_pop_11 ?_
  refine lv_iconst (v := 4) hx hb dX4_pop_14 (by decide) ?_
  refine va_iald hx hb hK hP 2 0 rfl rfl (by unfold vp_in; decide) dX4_pop_15 ?_
  refine lv_topi (fun x6 e7 => ?_)
  refine lv_iadd hx hb dX4_pop_16 ?_
  have g8 := g_i32 x4
  have g9 := g_i32 x6
  refine lv_topi (fun x10 e11 => ?_)
  refine g_Vi (n := 1) (As := [.int x10]) (rest := []) (wr := []) hx hb hml hg hown hK hP hD hS hA (s_X4_word l D dA t0 x10 c0 c1 c2 i0 i1 i2 i3 i4 i5 i6 c3 i7 i8 i9 m0 m1 m2 m3 (by omega) (by omega) (by omega) (by omega) p4 _) [0, 1, 2, 3, 4] [] rfl (by decide) rfl (by decide) (by decide) 0 rfl rfl q1378 q159 q1375 q1377 q50 (by decide +kernel) ⟨(Nat.le_of_ble_eq_true rfl), (Nat.le_of_ble_eq_true rfl)⟩ rfl hl.1 rfl (Nat.le_of_ble_eq_true rfl) dX4_pop_17 ⟨(Nat.le_of_ble_eq_true rfl), (Nat.le_of_ble_eq_true rfl)⟩ (fun x13 u12 H locs w14 hP hD hS => ?_)
  refine W.widen (k := 0) (n := 0) (Nat.le_of_ble_eq_true rfl) (Nat.le_of_ble_eq_true rfl) ?_
  have hP : va_P D vwC [(t0, .inr (4, [.ref c0, .ref c1, .ref c2, .int i0, .int i1, .int i2, .int i3, .int i4, .int i5, .int i6, .ref c3, .int i7, .int i8, .int i9])), (c0, .inl (dA 0, 4096, .inl m0)), (c1, .inl (dA 0, 8, .inl m1)), (c2, .inl (dA 0, 4, .inl m2)), (c3, .inl (dA 0, 30, .inl m3))] H := hP
  have hD : va_D A [(t0, .inr (4, [.ref c0, .ref c1, .ref c2, .int i0, .int i1, .int i2, .int i3, .int i4, .int i5, .int i6, .ref c3, .int i7, .int i8, .int i9])), (c0, .inl (dA 0, 4096, .inl m0)), (c1, .inl (dA 0, 8, .inl m1)), (c2, .inl (dA 0, 4, .inl m2)), (c3, .inl (dA 0, 30, .inl m3))] := hD
  refine lv_istore_n (lv' := [(1, .int x13), (0, .ref t0)]) hx hb dX4_pop_20 rfl hl (by decide) rfl (fun ls hl => ?_)
  refine lv_aload_n hx hb dX4_pop_21 rfl (lv_at hl 1 rfl) ?_
  refine g_get hx hb hg hown hK hP 0 rfl rfl inX4 1 (by decide) q554 rfl dX4_pop_22 ?_
  refine lv_iconst (v := 4) hx hb dX4_pop_25 (by decide) ?_
  refine lv_aload_n hx hb dX4_pop_26 rfl (lv_at hl 1 rfl) ?_
  refine g_get hx hb hg hown hK hP 0 rfl rfl inX4 1 (by decide) q554 rfl dX4_pop_27 ?_
  refine lv_iconst (v := 4) hx hb dX4_pop_30 (by decide) ?_
  refine va_iald hx hb hK hP 2 0 rfl rfl (by unfold vp_in; decide) dX4_pop_31 ?_
  refine lv_topi (fun x15 e16 => ?_)
  refine lv_iconst (v := 2) hx hb dX4_pop_32 (by decide) ?_
  refine lv_iadd hx hb dX4_pop_33 ?_
  have g17 := g_i32 x15
  refine lv_topi (fun x18 e19 => ?_)
  refine lv_ldc hx hb hown (hg _ q1400) dX4_pop_34 ?_
  refine lv_iand hx hb dX4_pop_36 ?_
  refine lv_topi (fun x20 e21 => ?_)
  have g22 : 0 ≤ x20.toInt ∧ x20.toInt ≤ 65535 := g_msk e21 16 (by decide) (by decide) (by decide)
  refine va_iast hx hb hK hP hD hS 2 0 rfl rfl (by unfold vp_in; decide) dX4_pop_37 (fun H locs hP hD hS => ?_)
  have hP : va_P D vwC [(t0, .inr (4, [.ref c0, .ref c1, .ref c2, .int i0, .int i1, .int i2, .int i3, .int i4, .int i5, .int i6, .ref c3, .int i7, .int i8, .int i9])), (c0, .inl (dA 0, 4096, .inl m0)), (c1, .inl (dA 0, 8, .inl (upd m1 (4 : Int32).toNatClampNeg x20))), (c2, .inl (dA 0, 4, .inl m2)), (c3, .inl (dA 0, 30, .inl m3))] H := hP
  have hD : va_D A [(t0, .inr (4, [.ref c0, .ref c1, .ref c2, .int i0, .int i1, .int i2, .int i3, .int i4, .int i5, .int i6, .ref c3, .int i7, .int i8, .int i9])), (c0, .inl (dA 0, 4096, .inl m0)), (c1, .inl (dA 0, 8, .inl (upd m1 (4 : Int32).toNatClampNeg x20))), (c2, .inl (dA 0, 4, .inl m2)), (c3, .inl (dA 0, 30, .inl m3))] := hD
  obtain ⟨f23, ef23⟩ : ∃ f : Nat → Int32, f = (upd m1 (4 : Int32).toNatClampNeg x20) := ⟨_, rfl⟩
  rw [← ef23] at hP hD
  refine lv_iload_n hx hb dX4_pop_38 rfl (lv_at hl 0 rfl) ?_
  exact g_iret hx hb hr rfl hlocks hK f23 hP hD hS trivial (Nat.le_of_ble_eq_true rfl) (Nat.le_of_ble_eq_true rfl) dX4_pop_39
