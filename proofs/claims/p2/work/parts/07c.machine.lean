theorem q72 : Cond.selects RX4 yX4_divide yX4_divide ∈ gw := gw_in (i := 72) (by decide +kernel) rfl
theorem q574 : Cond.fieldLink RX4 45 "SegmentBench$Machine" "k" "I" ∈ gw := gw_in (i := 574) (by decide +kernel) rfl
theorem q1480 : Cond.methodLink RX4 170 yX4_divide ∈ gw := gw_in (i := 1480) (by decide +kernel) rfl
theorem q1482 : Cond.instanceMethod yX4_divide ∈ gw := gw_in (i := 1482) (by decide +kernel) rfl
theorem q1483 : Cond.code yX4_divide cX4_divide 4 (some .int) ∈ gw := gw_in (i := 1483) (by decide +kernel) rfl
theorem q1484 : Cond.constantLong RX4 173 (65536) ∈ gw := gw_in (i := 1484) (by decide +kernel) rfl
theorem q1485 : Cond.constantLong RX4 175 (65535) ∈ gw := gw_in (i := 1485) (by decide +kernel) rfl
theorem dX4_shift_0 : decode cX4_shift 0 = .ok (.aload_n 0, 1) := by decide +kernel
theorem dX4_shift_1 : decode cX4_shift 1 = .ok (.invokevirtual 132, 3) := by decide +kernel
theorem dX4_shift_4 : decode cX4_shift 4 = .ok (.istore_n 1, 1) := by decide +kernel
theorem dX4_shift_5 : decode cX4_shift 5 = .ok (.aload_n 0, 1) := by decide +kernel
theorem dX4_shift_6 : decode cX4_shift 6 = .ok (.getfield 45, 3) := by decide +kernel
theorem dX4_shift_9 : decode cX4_shift 9 = .ok (.iconst 4, 1) := by decide +kernel
theorem dX4_shift_10 : decode cX4_shift 10 = .ok (.if_icmp .ne 21, 3) := by decide +kernel
theorem dX4_shift_31 : decode cX4_shift 31 = .ok (.aload_n 0, 1) := by decide +kernel
theorem dX4_shift_32 : decode cX4_shift 32 = .ok (.getfield 45, 3) := by decide +kernel
theorem dX4_shift_35 : decode cX4_shift 35 = .ok (.iconst 5, 1) := by decide +kernel
theorem dX4_shift_36 : decode cX4_shift 36 = .ok (.if_icmp .ne 17, 3) := by decide +kernel
theorem dX4_shift_53 : decode cX4_shift 53 = .ok (.iconst 2, 1) := by decide +kernel
theorem dX4_shift_54 : decode cX4_shift 54 = .ok (.ireturn, 1) := by decide +kernel
theorem dX4_shift_39 : decode cX4_shift 39 = .ok (.aload_n 0, 1) := by decide +kernel
theorem dX4_shift_40 : decode cX4_shift 40 = .ok (.iload_n 1, 1) := by decide +kernel
theorem dX4_shift_41 : decode cX4_shift 41 = .ok (.iconst 1, 1) := by decide +kernel
theorem dX4_shift_42 : decode cX4_shift 42 = .ok (.iand, 1) := by decide +kernel
theorem dX4_shift_43 : decode cX4_shift 43 = .ok (.putfield 30, 3) := by decide +kernel
theorem dX4_shift_46 : decode cX4_shift 46 = .ok (.iload_n 1, 1) := by decide +kernel
theorem dX4_shift_47 : decode cX4_shift 47 = .ok (.iconst 1, 1) := by decide +kernel
theorem dX4_shift_48 : decode cX4_shift 48 = .ok (.ishr, 1) := by decide +kernel
theorem dX4_shift_49 : decode cX4_shift 49 = .ok (.istore_n 2, 1) := by decide +kernel
theorem dX4_shift_50 : decode cX4_shift 50 = .ok (.goto 5, 3) := by decide +kernel
theorem dX4_shift_55 : decode cX4_shift 55 = .ok (.aload_n 0, 1) := by decide +kernel
theorem dX4_shift_56 : decode cX4_shift 56 = .ok (.iload_n 2, 1) := by decide +kernel
theorem dX4_shift_57 : decode cX4_shift 57 = .ok (.invokevirtual 139, 3) := by decide +kernel
theorem dX4_shift_60 : decode cX4_shift 60 = .ok (.aload_n 0, 1) := by decide +kernel
theorem dX4_shift_61 : decode cX4_shift 61 = .ok (.iload_n 2, 1) := by decide +kernel
theorem dX4_shift_62 : decode cX4_shift 62 = .ok (.invokevirtual 148, 3) := by decide +kernel
theorem dX4_shift_65 : decode cX4_shift 65 = .ok (.iconst 3, 1) := by decide +kernel
theorem dX4_shift_66 : decode cX4_shift 66 = .ok (.ireturn, 1) := by decide +kernel
theorem dX4_shift_13 : decode cX4_shift 13 = .ok (.aload_n 0, 1) := by decide +kernel
theorem dX4_shift_14 : decode cX4_shift 14 = .ok (.iload_n 1, 1) := by decide +kernel
theorem dX4_shift_15 : decode cX4_shift 15 = .ok (.bipush 15, 2) := by decide +kernel
theorem dX4_shift_17 : decode cX4_shift 17 = .ok (.ishr, 1) := by decide +kernel
theorem dX4_shift_18 : decode cX4_shift 18 = .ok (.putfield 30, 3) := by decide +kernel
theorem dX4_shift_21 : decode cX4_shift 21 = .ok (.iload_n 1, 1) := by decide +kernel
theorem dX4_shift_22 : decode cX4_shift 22 = .ok (.iconst 1, 1) := by decide +kernel
theorem dX4_shift_23 : decode cX4_shift 23 = .ok (.ishl, 1) := by decide +kernel
theorem dX4_shift_24 : decode cX4_shift 24 = .ok (.ldc 95, 2) := by decide +kernel
theorem dX4_shift_26 : decode cX4_shift 26 = .ok (.iand, 1) := by decide +kernel
theorem dX4_shift_27 : decode cX4_shift 27 = .ok (.istore_n 2, 1) := by decide +kernel
theorem dX4_shift_28 : decode cX4_shift 28 = .ok (.goto 27, 3) := by decide +kernel
theorem dX4_divide_0 : decode cX4_divide 0 = .ok (.ldc2_w 173, 3) := by decide +kernel
theorem dX4_divide_3 : decode cX4_divide 3 = .ok (.aload_n 0, 1) := by decide +kernel
theorem dX4_divide_4 : decode cX4_divide 4 = .ok (.getfield 13, 3) := by decide +kernel
theorem dX4_divide_7 : decode cX4_divide 7 = .ok (.iconst 2, 1) := by decide +kernel
theorem dX4_divide_8 : decode cX4_divide 8 = .ok (.iaload, 1) := by decide +kernel
theorem dX4_divide_9 : decode cX4_divide 9 = .ok (.i2l, 1) := by decide +kernel
theorem dX4_divide_10 : decode cX4_divide 10 = .ok (.lmul, 1) := by decide +kernel
theorem dX4_divide_11 : decode cX4_divide 11 = .ok (.aload_n 0, 1) := by decide +kernel
theorem dX4_divide_12 : decode cX4_divide 12 = .ok (.getfield 13, 3) := by decide +kernel
theorem dX4_divide_15 : decode cX4_divide 15 = .ok (.iconst 0, 1) := by decide +kernel
theorem dX4_divide_16 : decode cX4_divide 16 = .ok (.iaload, 1) := by decide +kernel
theorem dX4_divide_17 : decode cX4_divide 17 = .ok (.i2l, 1) := by decide +kernel
theorem dX4_divide_18 : decode cX4_divide 18 = .ok (.ladd, 1) := by decide +kernel
theorem dX4_divide_19 : decode cX4_divide 19 = .ok (.lstore_n 2, 1) := by decide +kernel
theorem dX4_divide_20 : decode cX4_divide 20 = .ok (.iload_n 1, 1) := by decide +kernel
theorem dX4_divide_21 : decode cX4_divide 21 = .ok (.ifCond .eq 14, 3) := by decide +kernel
theorem dX4_divide_35 : decode cX4_divide 35 = .ok (.iconst 1, 1) := by decide +kernel
theorem dX4_divide_36 : decode cX4_divide 36 = .ok (.ireturn, 1) := by decide +kernel
theorem dX4_divide_24 : decode cX4_divide 24 = .ok (.lload_n 2, 1) := by decide +kernel
theorem dX4_divide_25 : decode cX4_divide 25 = .ok (.iload_n 1, 1) := by decide +kernel
theorem dX4_divide_26 : decode cX4_divide 26 = .ok (.i2l, 1) := by decide +kernel
theorem dX4_divide_27 : decode cX4_divide 27 = .ok (.ldiv, 1) := by decide +kernel
theorem dX4_divide_28 : decode cX4_divide 28 = .ok (.ldc2_w 175, 3) := by decide +kernel
theorem dX4_divide_31 : decode cX4_divide 31 = .ok (.lcmp, 1) := by decide +kernel
theorem dX4_divide_32 : decode cX4_divide 32 = .ok (.ifCond .le 5, 3) := by decide +kernel
theorem dX4_divide_37 : decode cX4_divide 37 = .ok (.aload_n 0, 1) := by decide +kernel
theorem dX4_divide_38 : decode cX4_divide 38 = .ok (.getfield 13, 3) := by decide +kernel
theorem dX4_divide_41 : decode cX4_divide 41 = .ok (.iconst 0, 1) := by decide +kernel
theorem dX4_divide_42 : decode cX4_divide 42 = .ok (.lload_n 2, 1) := by decide +kernel
theorem dX4_divide_43 : decode cX4_divide 43 = .ok (.iload_n 1, 1) := by decide +kernel
theorem dX4_divide_44 : decode cX4_divide 44 = .ok (.i2l, 1) := by decide +kernel
theorem dX4_divide_45 : decode cX4_divide 45 = .ok (.ldiv, 1) := by decide +kernel
theorem dX4_divide_46 : decode cX4_divide 46 = .ok (.l2i, 1) := by decide +kernel
theorem dX4_divide_47 : decode cX4_divide 47 = .ok (.iastore, 1) := by decide +kernel
theorem dX4_divide_48 : decode cX4_divide 48 = .ok (.aload_n 0, 1) := by decide +kernel
theorem dX4_divide_49 : decode cX4_divide 49 = .ok (.getfield 13, 3) := by decide +kernel
theorem dX4_divide_52 : decode cX4_divide 52 = .ok (.iconst 2, 1) := by decide +kernel
theorem dX4_divide_53 : decode cX4_divide 53 = .ok (.lload_n 2, 1) := by decide +kernel
theorem dX4_divide_54 : decode cX4_divide 54 = .ok (.iload_n 1, 1) := by decide +kernel
theorem dX4_divide_55 : decode cX4_divide 55 = .ok (.i2l, 1) := by decide +kernel
theorem dX4_divide_56 : decode cX4_divide 56 = .ok (.lrem, 1) := by decide +kernel
theorem dX4_divide_57 : decode cX4_divide 57 = .ok (.l2i, 1) := by decide +kernel
theorem dX4_divide_58 : decode cX4_divide 58 = .ok (.iastore, 1) := by decide +kernel
theorem dX4_divide_59 : decode cX4_divide 59 = .ok (.iconst 3, 1) := by decide +kernel
theorem dX4_divide_60 : decode cX4_divide 60 = .ok (.ireturn, 1) := by decide +kernel
theorem dX4_single_0 : decode cX4_single 0 = .ok (.aload_n 0, 1) := by decide +kernel
theorem dX4_single_1 : decode cX4_single 1 = .ok (.getfield 45, 3) := by decide +kernel
theorem dX4_single_4 : decode cX4_single 4 = .ok (.tableswitch 116 3 6 #[32, 48, 116, 107], 32) := by decide +kernel
theorem dX4_single_36 : decode cX4_single 36 = .ok (.aload_n 0, 1) := by decide +kernel
theorem dX4_single_37 : decode cX4_single 37 = .ok (.aload_n 0, 1) := by decide +kernel
theorem dX4_single_38 : decode cX4_single 38 = .ok (.iconst 5, 1) := by decide +kernel
theorem dX4_single_39 : decode cX4_single 39 = .ok (.iconst 0, 1) := by decide +kernel
theorem dX4_single_40 : decode cX4_single 40 = .ok (.aload_n 0, 1) := by decide +kernel
theorem dX4_single_41 : decode cX4_single 41 = .ok (.invokevirtual 132, 3) := by decide +kernel
theorem dX4_single_44 : decode cX4_single 44 = .ok (.invokevirtual 135, 3) := by decide +kernel
theorem dX4_single_47 : decode cX4_single 47 = .ok (.invokevirtual 148, 3) := by decide +kernel
theorem dX4_single_50 : decode cX4_single 50 = .ok (.iconst 3, 1) := by decide +kernel
theorem dX4_single_51 : decode cX4_single 51 = .ok (.ireturn, 1) := by decide +kernel
theorem dX4_single_52 : decode cX4_single 52 = .ok (.aload_n 0, 1) := by decide +kernel
theorem dX4_single_53 : decode cX4_single 53 = .ok (.getfield 13, 3) := by decide +kernel
theorem dX4_single_56 : decode cX4_single 56 = .ok (.iconst 0, 1) := by decide +kernel
theorem dX4_single_57 : decode cX4_single 57 = .ok (.iaload, 1) := by decide +kernel
theorem dX4_single_58 : decode cX4_single 58 = .ok (.i2l, 1) := by decide +kernel
theorem dX4_single_59 : decode cX4_single 59 = .ok (.aload_n 0, 1) := by decide +kernel
theorem dX4_single_60 : decode cX4_single 60 = .ok (.invokevirtual 132, 3) := by decide +kernel
theorem dX4_single_63 : decode cX4_single 63 = .ok (.i2l, 1) := by decide +kernel
theorem dX4_single_64 : decode cX4_single 64 = .ok (.lmul, 1) := by decide +kernel
theorem dX4_single_65 : decode cX4_single 65 = .ok (.lstore_n 1, 1) := by decide +kernel
theorem dX4_single_66 : decode cX4_single 66 = .ok (.aload_n 0, 1) := by decide +kernel
theorem dX4_single_67 : decode cX4_single 67 = .ok (.getfield 13, 3) := by decide +kernel
theorem dX4_single_70 : decode cX4_single 70 = .ok (.iconst 0, 1) := by decide +kernel
theorem dX4_single_71 : decode cX4_single 71 = .ok (.lload_n 1, 1) := by decide +kernel
theorem dX4_single_72 : decode cX4_single 72 = .ok (.l2i, 1) := by decide +kernel
theorem dX4_single_73 : decode cX4_single 73 = .ok (.ldc 95, 2) := by decide +kernel
theorem dX4_single_75 : decode cX4_single 75 = .ok (.iand, 1) := by decide +kernel
theorem dX4_single_76 : decode cX4_single 76 = .ok (.iastore, 1) := by decide +kernel
theorem dX4_single_77 : decode cX4_single 77 = .ok (.aload_n 0, 1) := by decide +kernel
theorem dX4_single_78 : decode cX4_single 78 = .ok (.getfield 13, 3) := by decide +kernel
theorem dX4_single_81 : decode cX4_single 81 = .ok (.iconst 2, 1) := by decide +kernel
theorem dX4_single_82 : decode cX4_single 82 = .ok (.lload_n 1, 1) := by decide +kernel
theorem dX4_single_83 : decode cX4_single 83 = .ok (.bipush 16, 2) := by decide +kernel
theorem dX4_single_85 : decode cX4_single 85 = .ok (.lshr, 1) := by decide +kernel
theorem dX4_single_86 : decode cX4_single 86 = .ok (.l2i, 1) := by decide +kernel
theorem dX4_single_87 : decode cX4_single 87 = .ok (.ldc 95, 2) := by decide +kernel
theorem dX4_single_89 : decode cX4_single 89 = .ok (.iand, 1) := by decide +kernel
theorem dX4_single_90 : decode cX4_single 90 = .ok (.iastore, 1) := by decide +kernel
theorem dX4_single_91 : decode cX4_single 91 = .ok (.aload_n 0, 1) := by decide +kernel
theorem dX4_single_92 : decode cX4_single 92 = .ok (.aload_n 0, 1) := by decide +kernel
theorem dX4_single_93 : decode cX4_single 93 = .ok (.getfield 13, 3) := by decide +kernel
theorem dX4_single_96 : decode cX4_single 96 = .ok (.iconst 2, 1) := by decide +kernel
theorem dX4_single_97 : decode cX4_single 97 = .ok (.iaload, 1) := by decide +kernel
theorem dX4_single_98 : decode cX4_single 98 = .ok (.ifCond .eq 7, 3) := by decide +kernel
theorem dX4_single_105 : decode cX4_single 105 = .ok (.iconst 0, 1) := by decide +kernel
theorem dX4_single_106 : decode cX4_single 106 = .ok (.putfield 30, 3) := by decide +kernel
theorem dX4_single_109 : decode cX4_single 109 = .ok (.iconst 3, 1) := by decide +kernel
theorem dX4_single_110 : decode cX4_single 110 = .ok (.ireturn, 1) := by decide +kernel
theorem dX4_single_101 : decode cX4_single 101 = .ok (.iconst 1, 1) := by decide +kernel
theorem dX4_single_102 : decode cX4_single 102 = .ok (.goto 4, 3) := by decide +kernel
theorem dX4_single_120 : decode cX4_single 120 = .ok (.iconst 2, 1) := by decide +kernel
theorem dX4_single_121 : decode cX4_single 121 = .ok (.ireturn, 1) := by decide +kernel
theorem dX4_single_111 : decode cX4_single 111 = .ok (.aload_n 0, 1) := by decide +kernel
theorem dX4_single_112 : decode cX4_single 112 = .ok (.aload_n 0, 1) := by decide +kernel
theorem dX4_single_113 : decode cX4_single 113 = .ok (.invokevirtual 132, 3) := by decide +kernel
theorem dX4_single_116 : decode cX4_single 116 = .ok (.invokevirtual 170, 3) := by decide +kernel
theorem dX4_single_119 : decode cX4_single 119 = .ok (.ireturn, 1) := by decide +kernel
set_option maxHeartbeats 4000000 in
set_option maxRecDepth 100000 in
theorem s_X4_shift (l : Launch) (D : va_G) (dA : Nat → ClassId) (t0 : Nat) (c0 : Nat) (c1 : Nat) (c2 : Nat) (i0 : Int32) (i1 : Int32) (i2 : Int32) (i3 : Int32) (i4 : Int32) (i5 : Int32) (i6 : Int32) (c3 : Nat) (i7 : Int32) (i8 : Int32) (i9 : Int32) (m0 : Nat → Int32) (m1 : Nat → Int32) (m2 : Nat → Int32) (m3 : Nat → Int32) (p0 : 0 ≤ i4.toInt ∧ i4.toInt ≤ 1) (p1 : 0 ≤ i6.toInt ∧ i6.toInt ≤ 1000000) (p2 : 0 ≤ i7.toInt ∧ i7.toInt ≤ 7) (p3 : -1 ≤ i8.toInt ∧ i8.toInt ≤ 7) (p4 : ∀ j : Nat, 0 ≤ (m0 j).toInt ∧ (m0 j).toInt ≤ 255) (sz : Nat) : Met l yX4_shift (gws yX4_shift cX4_shift 3 (some .int)) (gR 3 0 0) (gPre D dA [.ref t0] [(t0, .inr (4, [.ref c0, .ref c1, .ref c2, .int i0, .int i1, .int i2, .int i3, .int i4, .int i5, .int i6, .ref c3, .int i7, .int i8, .int i9])), (c0, .inl (dA 0, 4096, .inl m0)), (c1, .inl (dA 0, 8, .inl m1)), (c2, .inl (dA 0, 4, .inl m2)), (c3, .inl (dA 0, 30, .inl m3))] sz) (va_Qi (fun (r : Int32) (u : Int32 × Int32 × Int32 × (Nat → Int32) × (Nat → Int32)) => (0 ≤ r.toInt ∧ r.toInt ≤ 3) ∧ (∀ j : Nat, 0 ≤ (u.2.2.2.1 j).toInt ∧ (u.2.2.2.1 j).toInt ≤ 255)) (gAt D dA (va_A [(t0, .inr (4, [.ref c0, .ref c1, .ref c2, .int i0, .int i1, .int i2, .int i3, .int i4, .int i5, .int i6, .ref c3, .int i7, .int i8, .int i9])), (c0, .inl (dA 0, 4096, .inl m0)), (c1, .inl (dA 0, 8, .inl m1)), (c2, .inl (dA 0, 4, .inl m2)), (c3, .inl (dA 0, 30, .inl m3))] sz) (fun u : Int32 × Int32 × Int32 × (Nat → Int32) × (Nat → Int32) => [(t0, .inr (4, [.ref c0, .ref c1, .ref c2, .int i0, .int u.1, .int u.2.1, .int u.2.2.1, .int i4, .int i5, .int i6, .ref c3, .int i7, .int i8, .int i9])), (c0, .inl (dA 0, 4096, .inl (u.2.2.2.1))), (c1, .inl (dA 0, 8, .inl (u.2.2.2.2))), (c2, .inl (dA 0, 4, .inl m2)), (c3, .inl (dA 0, 30, .inl m3))])) (va_A [(t0, .inr (4, [.ref c0, .ref c1, .ref c2, .int i0, .int i1, .int i2, .int i3, .int i4, .int i5, .int i6, .ref c3, .int i7, .int i8, .int i9])), (c0, .inl (dA 0, 4096, .inl m0)), (c1, .inl (dA 0, 8, .inl m1)), (c2, .inl (dA 0, 4, .inl m2)), (c3, .inl (dA 0, 30, .inl m3))] sz)) 0 0 (va_A [(t0, .inr (4, [.ref c0, .ref c1, .ref c2, .int i0, .int i1, .int i2, .int i3, .int i4, .int i5, .int i6, .ref c3, .int i7, .int i8, .int i9])), (c0, .inl (dA 0, 4096, .inl m0)), (c1, .inl (dA 0, 8, .inl m1)), (c2, .inl (dA 0, 4, .inl m2)), (c3, .inl (dA 0, 30, .inl m3))] sz) := by
  refine Met.ofW (cc := cX4_shift) (maxL := 3) (ret := (some .int)) (by decide) rfl ?_
  intro p e s m args below meth c s₁ B hml hv
  obtain ⟨rfl, hsz, hP, hK, hD0⟩ := hv
  have hx := B.exec
  have hb := B.bytes
  have hr := B.returns
  have hts := atoms_spec (ws := gws yX4_shift cX4_shift 3 (some .int)) B.pre
  have hg : ∀ w ∈ gw, w.before _ s = true := fun w h => hts w (List.mem_cons_of_mem _ h)
  have hown : s.vm.findClass RX4 = some m.cls := findClass_of_methodNamed B.named
  have hlocks := B.notSynchronized
  subst hsz
  have hD := hD0.self (sz := s.heap.size)
  generalize hAe : va_A [(t0, .inr (4, [.ref c0, .ref c1, .ref c2, .int i0, .int i1, .int i2, .int i3, .int i4, .int i5, .int i6, .ref c3, .int i7, .int i8, .int i9])), (c0, .inl (dA 0, 4096, .inl m0)), (c1, .inl (dA 0, 8, .inl m1)), (c2, .inl (dA 0, 4, .inl m2)), (c3, .inl (dA 0, 30, .inl m3))] s.heap.size = A at hD ⊢
  have hA : ∀ q : Nat, s.heap.size ≤ q → A q := fun q h => by rw [← hAe]; exact Or.inr h
  have hS : va_S A s.heap s.heap [] := va_S.rf
  have hP : va_P D vwC [(t0, .inr (4, [.ref c0, .ref c1, .ref c2, .int i0, .int i1, .int i2, .int i3, .int i4, .int i5, .int i6, .ref c3, .int i7, .int i8, .int i9])), (c0, .inl (dA 0, 4096, .inl m0)), (c1, .inl (dA 0, 8, .inl m1)), (c2, .inl (dA 0, 4, .inl m2)), (c3, .inl (dA 0, 30, .inl m3))] s.heap := hP
  have hl := lv_entry ([.ref t0]) (n := 3) (Nat.le_of_ble_eq_true rfl)
  rw [lg_entry_eq]
  generalize (lg_sl ([.ref t0]) ++ List.replicate (3 - (lg_sl ([.ref t0])).length) Slot.unset).toArray = ls at hl ⊢
  have hl : lv_has ls 3 [(0, .ref t0)] := hl
  refine lv_aload_n hx hb dX4_shift_0 rfl (lv_at hl 0 rfl) ?_
  refine g_Vi (n := 0) (As := []) (rest := []) (wr := []) hx hb hml hg hown hK hP hD hS hA (s_X4_readM l D dA t0 c0 c1 c2 i0 i1 i2 i3 i4 i5 i6 c3 i7 i8 i9 m0 m1 m2 m3 (by omega) (by omega) (by omega) (by omega) p4 _) [0, 1, 2, 3, 4] [] rfl (by decide) rfl (by decide) (by decide) 0 rfl rfl q1443 q159 q1440 q1442 q62 (by decide +kernel) ⟨(Nat.le_of_ble_eq_true rfl), (Nat.le_of_ble_eq_true rfl)⟩ rfl hl.1 rfl (Nat.le_of_ble_eq_true rfl) dX4_shift_1 ⟨(Nat.le_of_ble_eq_true rfl), (Nat.le_of_ble_eq_true rfl)⟩ (fun x2 u1 H locs w3 hP hD hS => ?_)
  refine W.widen (k := 0) (n := 0) (Nat.le_of_ble_eq_true rfl) (Nat.le_of_ble_eq_true rfl) ?_
  have hP : va_P D vwC [(t0, .inr (4, [.ref c0, .ref c1, .ref c2, .int i0, .int i1, .int i2, .int i3, .int i4, .int i5, .int i6, .ref c3, .int i7, .int i8, .int i9])), (c0, .inl (dA 0, 4096, .inl m0)), (c1, .inl (dA 0, 8, .inl m1)), (c2, .inl (dA 0, 4, .inl m2)), (c3, .inl (dA 0, 30, .inl m3))] H := hP
  have hD : va_D A [(t0, .inr (4, [.ref c0, .ref c1, .ref c2, .int i0, .int i1, .int i2, .int i3, .int i4, .int i5, .int i6, .ref c3, .int i7, .int i8, .int i9])), (c0, .inl (dA 0, 4096, .inl m0)), (c1, .inl (dA 0, 8, .inl m1)), (c2, .inl (dA 0, 4, .inl m2)), (c3, .inl (dA 0, 30, .inl m3))] := hD
  refine lv_istore_n (lv' := [(1, .int x2), (0, .ref t0)]) hx hb dX4_shift_4 rfl hl (by decide) rfl (fun ls hl => ?_)
  refine lv_aload_n hx hb dX4_shift_5 rfl (lv_at hl 1 rfl) ?_
  refine g_get hx hb hg hown hK hP 0 rfl rfl inX4 11 (by decide) q574 rfl dX4_shift_6 ?_
  refine lv_iconst (v := 4) hx hb dX4_shift_9 (by decide) ?_
  refine lv_icmp_ne (tgt := 31) hx hb dX4_shift_10 (by decide) (fun k4 => ?_) (fun k4 => ?_)
  · have g5 : i7.toInt ≠ 4 := gi_neq (rfl : i7.toInt = i7.toInt) (by decide : (4 : Int32).toInt = 4) k4
    refine lv_aload_n hx hb dX4_shift_31 rfl (lv_at hl 1 rfl) ?_
    refine g_get hx hb hg hown hK hP 0 rfl rfl inX4 11 (by decide) q574 rfl dX4_shift_32 ?_
    refine lv_iconst (v := 5) hx hb dX4_shift_35 (by decide) ?_
    refine lv_icmp_ne (tgt := 53) hx hb dX4_shift_36 (by decide) (fun k6 => ?_) (fun k6 => ?_)
    · have g7 : i7.toInt ≠ 5 := gi_neq (rfl : i7.toInt = i7.toInt) (by decide : (5 : Int32).toInt = 5) k6
      refine lv_iconst (v := 2) hx hb dX4_shift_53 (by decide) ?_
      exact g_iret hx hb hr rfl hlocks hK (i1, i2, i3, m0, m1) hP hD hS ⟨(show 0 ≤ ((2 : Int32)).toInt ∧ ((2 : Int32)).toInt ≤ 3 from by decide), p4⟩ (Nat.le_of_ble_eq_true rfl) (Nat.le_of_ble_eq_true rfl) dX4_shift_54
    · have g8 : i7.toInt = 5 := gi_eq (rfl : i7.toInt = i7.toInt) (by decide : (5 : Int32).toInt = 5) k6
      refine lv_aload_n hx hb dX4_shift_39 rfl (lv_at hl 1 rfl) ?_
      refine lv_iload_n hx hb dX4_shift_40 rfl (lv_at hl 0 rfl) ?_
      refine lv_iconst (v := 1) hx hb dX4_shift_41 (by decide) ?_
      refine lv_iand hx hb dX4_shift_42 ?_
      refine lv_topi (fun x9 e10 => ?_)
      have g11 : 0 ≤ x9.toInt ∧ x9.toInt ≤ 1 := g_msk e10 1 (by decide) (by decide) (by decide)
      refine g_put (w' := [(t0, .inr (4, [.ref c0, .ref c1, .ref c2, .int i0, .int x9, .int i2, .int i3, .int i4, .int i5, .int i6, .ref c3, .int i7, .int i8, .int i9])), (c0, .inl (dA 0, 4096, .inl m0)), (c1, .inl (dA 0, 8, .inl m1)), (c2, .inl (dA 0, 4, .inl m2)), (c3, .inl (dA 0, 30, .inl m3))]) hx hb hg hown hK hP hD hS 0 rfl rfl inX4 tyX4_ok nmX4 4 (by decide) q560 rfl rfl rfl (Nat.le_of_ble_eq_true rfl) rfl dX4_shift_43 (fun H locs hP hD hS => ?_)
      refine lv_iload_n hx hb dX4_shift_46 rfl (lv_at hl 0 rfl) ?_
      refine lv_iconst (v := 1) hx hb dX4_shift_47 (by decide) ?_
      refine lv_ishr hx hb dX4_shift_48 ?_
      refine lv_topi (fun x12 e13 => ?_)
      have g14 : x12.toInt * 2 ≤ x2.toInt ∧ x2.toInt < x12.toInt * 2 + 2 := g_shr e13 1 (by decide) (by decide) (by decide)
      refine lv_istore_n (lv' := [(2, .int x12), (1, .int x2), (0, .ref t0)]) hx hb dX4_shift_49 rfl hl (by decide) rfl (fun ls hl => ?_)
      refine lv_goto (tgt := 55) hx hb dX4_shift_50 (by decide) ?_
      refine lv_aload_n hx hb dX4_shift_55 rfl (lv_at hl 2 rfl) ?_
      refine lv_iload_n hx hb dX4_shift_56 rfl (lv_at hl 0 rfl) ?_
      refine g_Vv (n := 1) (As := [.int x12]) (rest := []) (wr := []) hx hb hml hg hown hK hP hD hS hA (s_X4_judge l D dA t0 x12 c0 c1 c2 i0 x9 i2 i3 i4 i5 i6 c3 i7 i8 i9 m0 m1 m2 m3 (by omega) (by omega) (by omega) (by omega) p4 _) [0, 1, 2, 3, 4] [] rfl (by decide) rfl (by decide) (by decide) 0 rfl rfl q1451 q159 q1448 q1450 q64 (by decide +kernel) ⟨(Nat.le_of_ble_eq_true rfl), (Nat.le_of_ble_eq_true rfl)⟩ rfl hl.1 rfl (Nat.le_of_ble_eq_true rfl) dX4_shift_57 ⟨(Nat.le_of_ble_eq_true rfl), (Nat.le_of_ble_eq_true rfl)⟩ (fun u15 H locs w17 hP hD hS => ?_)
      refine W.widen (k := 0) (n := 0) (Nat.le_of_ble_eq_true rfl) (Nat.le_of_ble_eq_true rfl) ?_
      obtain ⟨x18, x19⟩ := u15
      have hP : va_P D vwC [(t0, .inr (4, [.ref c0, .ref c1, .ref c2, .int i0, .int x9, .int x18, .int x19, .int i4, .int i5, .int i6, .ref c3, .int i7, .int i8, .int i9])), (c0, .inl (dA 0, 4096, .inl m0)), (c1, .inl (dA 0, 8, .inl m1)), (c2, .inl (dA 0, 4, .inl m2)), (c3, .inl (dA 0, 30, .inl m3))] H := hP
      have hD : va_D A [(t0, .inr (4, [.ref c0, .ref c1, .ref c2, .int i0, .int x9, .int x18, .int x19, .int i4, .int i5, .int i6, .ref c3, .int i7, .int i8, .int i9])), (c0, .inl (dA 0, 4096, .inl m0)), (c1, .inl (dA 0, 8, .inl m1)), (c2, .inl (dA 0, 4, .inl m2)), (c3, .inl (dA 0, 30, .inl m3))] := hD
      refine lv_aload_n hx hb dX4_shift_60 rfl (lv_at hl 2 rfl) ?_
      refine lv_iload_n hx hb dX4_shift_61 rfl (lv_at hl 0 rfl) ?_
      refine g_Vv (n := 1) (As := [.int x12]) (rest := []) (wr := []) hx hb hml hg hown hK hP hD hS hA (s_X4_writeM l D dA t0 x12 c0 c1 c2 i0 x9 x18 x19 i4 i5 i6 c3 i7 i8 i9 m0 m1 m2 m3 (by omega) (by omega) (by omega) (by omega) p4 _) [0, 1, 2, 3, 4] [] rfl (by decide) rfl (by decide) (by decide) 0 rfl rfl q1455 q159 q1452 q1454 q65 (by decide +kernel) ⟨(Nat.le_of_ble_eq_true rfl), (Nat.le_of_ble_eq_true rfl)⟩ rfl hl.1 rfl (Nat.le_of_ble_eq_true rfl) dX4_shift_62 ⟨(Nat.le_of_ble_eq_true rfl), (Nat.le_of_ble_eq_true rfl)⟩ (fun u20 H locs w22 hP hD hS => ?_)
      refine W.widen (k := 0) (n := 0) (Nat.le_of_ble_eq_true rfl) (Nat.le_of_ble_eq_true rfl) ?_
      obtain ⟨f23, f24⟩ := u20
      have hP : va_P D vwC [(t0, .inr (4, [.ref c0, .ref c1, .ref c2, .int i0, .int x9, .int x18, .int x19, .int i4, .int i5, .int i6, .ref c3, .int i7, .int i8, .int i9])), (c0, .inl (dA 0, 4096, .inl f23)), (c1, .inl (dA 0, 8, .inl f24)), (c2, .inl (dA 0, 4, .inl m2)), (c3, .inl (dA 0, 30, .inl m3))] H := hP
      have hD : va_D A [(t0, .inr (4, [.ref c0, .ref c1, .ref c2, .int i0, .int x9, .int x18, .int x19, .int i4, .int i5, .int i6, .ref c3, .int i7, .int i8, .int i9])), (c0, .inl (dA 0, 4096, .inl f23)), (c1, .inl (dA 0, 8, .inl f24)), (c2, .inl (dA 0, 4, .inl m2)), (c3, .inl (dA 0, 30, .inl m3))] := hD
      have g25 := w22
      have g25 : ∀ j : Nat, 0 ≤ (f23 j).toInt ∧ (f23 j).toInt ≤ 255 := g25
      refine lv_iconst (v := 3) hx hb dX4_shift_65 (by decide) ?_
      exact g_iret hx hb hr rfl hlocks hK (x9, x18, x19, f23, f24) hP hD hS ⟨(show 0 ≤ ((3 : Int32)).toInt ∧ ((3 : Int32)).toInt ≤ 3 from by decide), g25⟩ (Nat.le_of_ble_eq_true rfl) (Nat.le_of_ble_eq_true rfl) dX4_shift_66
  · have g26 : i7.toInt = 4 := gi_eq (rfl : i7.toInt = i7.toInt) (by decide : (4 : Int32).toInt = 4) k4
    refine lv_aload_n hx hb dX4_shift_13 rfl (lv_at hl 1 rfl) ?_
    refine lv_iload_n hx hb dX4_shift_14 rfl (lv_at hl 0 rfl) ?_
    refine lv_bipush (v := 15) hx hb dX4_shift_15 (by decide) ?_
    refine lv_ishr hx hb dX4_shift_17 ?_
    refine lv_topi (fun x27 e28 => ?_)
    have g29 : x27.toInt * 32768 ≤ x2.toInt ∧ x2.toInt < x27.toInt * 32768 + 32768 := g_shr e28 15 (by decide) (by decide) (by decide)
    refine g_put (w' := [(t0, .inr (4, [.ref c0, .ref c1, .ref c2, .int i0, .int x27, .int i2, .int i3, .int i4, .int i5, .int i6, .ref c3, .int i7, .int i8, .int i9])), (c0, .inl (dA 0, 4096, .inl m0)), (c1, .inl (dA 0, 8, .inl m1)), (c2, .inl (dA 0, 4, .inl m2)), (c3, .inl (dA 0, 30, .inl m3))]) hx hb hg hown hK hP hD hS 0 rfl rfl inX4 tyX4_ok nmX4 4 (by decide) q560 rfl rfl rfl (Nat.le_of_ble_eq_true rfl) rfl dX4_shift_18 (fun H locs hP hD hS => ?_)
    refine lv_iload_n hx hb dX4_shift_21 rfl (lv_at hl 0 rfl) ?_
    refine lv_iconst (v := 1) hx hb dX4_shift_22 (by decide) ?_
    refine lv_ishl hx hb dX4_shift_23 ?_
    refine lv_topi (fun x30 e31 => ?_)
    refine lv_ldc hx hb hown (hg _ q1400) dX4_shift_24 ?_
    refine lv_iand hx hb dX4_shift_26 ?_
    refine lv_topi (fun x32 e33 => ?_)
    have g34 : 0 ≤ x32.toInt ∧ x32.toInt ≤ 65535 := g_msk e33 16 (by decide) (by decide) (by decide)
    refine lv_istore_n (lv' := [(2, .int x32), (1, .int x2), (0, .ref t0)]) hx hb dX4_shift_27 rfl hl (by decide) rfl (fun ls hl => ?_)
    refine lv_goto (tgt := 55) hx hb dX4_shift_28 (by decide) ?_
    refine lv_aload_n hx hb dX4_shift_55 rfl (lv_at hl 2 rfl) ?_
    refine lv_iload_n hx hb dX4_shift_56 rfl (lv_at hl 0 rfl) ?_
    refine g_Vv (n := 1) (As := [.int x32]) (rest := []) (wr := []) hx hb hml hg hown hK hP hD hS hA (s_X4_judge l D dA t0 x32 c0 c1 c2 i0 x27 i2 i3 i4 i5 i6 c3 i7 i8 i9 m0 m1 m2 m3 (by omega) (by omega) (by omega) (by omega) p4 _) [0, 1, 2, 3, 4] [] rfl (by decide) rfl (by decide) (by decide) 0 rfl rfl q1451 q159 q1448 q1450 q64 (by decide +kernel) ⟨(Nat.le_of_ble_eq_true rfl), (Nat.le_of_ble_eq_true rfl)⟩ rfl hl.1 rfl (Nat.le_of_ble_eq_true rfl) dX4_shift_57 ⟨(Nat.le_of_ble_eq_true rfl), (Nat.le_of_ble_eq_true rfl)⟩ (fun u35 H locs w37 hP hD hS => ?_)
    refine W.widen (k := 0) (n := 0) (Nat.le_of_ble_eq_true rfl) (Nat.le_of_ble_eq_true rfl) ?_
    obtain ⟨x38, x39⟩ := u35
    have hP : va_P D vwC [(t0, .inr (4, [.ref c0, .ref c1, .ref c2, .int i0, .int x27, .int x38, .int x39, .int i4, .int i5, .int i6, .ref c3, .int i7, .int i8, .int i9])), (c0, .inl (dA 0, 4096, .inl m0)), (c1, .inl (dA 0, 8, .inl m1)), (c2, .inl (dA 0, 4, .inl m2)), (c3, .inl (dA 0, 30, .inl m3))] H := hP
    have hD : va_D A [(t0, .inr (4, [.ref c0, .ref c1, .ref c2, .int i0, .int x27, .int x38, .int x39, .int i4, .int i5, .int i6, .ref c3, .int i7, .int i8, .int i9])), (c0, .inl (dA 0, 4096, .inl m0)), (c1, .inl (dA 0, 8, .inl m1)), (c2, .inl (dA 0, 4, .inl m2)), (c3, .inl (dA 0, 30, .inl m3))] := hD
    refine lv_aload_n hx hb dX4_shift_60 rfl (lv_at hl 2 rfl) ?_
    refine lv_iload_n hx hb dX4_shift_61 rfl (lv_at hl 0 rfl) ?_
    refine g_Vv (n := 1) (As := [.int x32]) (rest := []) (wr := []) hx hb hml hg hown hK hP hD hS hA (s_X4_writeM l D dA t0 x32 c0 c1 c2 i0 x27 x38 x39 i4 i5 i6 c3 i7 i8 i9 m0 m1 m2 m3 (by omega) (by omega) (by omega) (by omega) p4 _) [0, 1, 2, 3, 4] [] rfl (by decide) rfl (by decide) (by decide) 0 rfl rfl q1455 q159 q1452 q1454 q65 (by decide +kernel) ⟨(Nat.le_of_ble_eq_true rfl), (Nat.le_of_ble_eq_true rfl)⟩ rfl hl.1 rfl (Nat.le_of_ble_eq_true rfl) dX4_shift_62 ⟨(Nat.le_of_ble_eq_true rfl), (Nat.le_of_ble_eq_true rfl)⟩ (fun u40 H locs w42 hP hD hS => ?_)
    refine W.widen (k := 0) (n := 0) (Nat.le_of_ble_eq_true rfl) (Nat.le_of_ble_eq_true rfl) ?_
    obtain ⟨f43, f44⟩ := u40
    have hP : va_P D vwC [(t0, .inr (4, [.ref c0, .ref c1, .ref c2, .int i0, .int x27, .int x38, .int x39, .int i4, .int i5, .int i6, .ref c3, .int i7, .int i8, .int i9])), (c0, .inl (dA 0, 4096, .inl f43)), (c1, .inl (dA 0, 8, .inl f44)), (c2, .inl (dA 0, 4, .inl m2)), (c3, .inl (dA 0, 30, .inl m3))] H := hP
    have hD : va_D A [(t0, .inr (4, [.ref c0, .ref c1, .ref c2, .int i0, .int x27, .int x38, .int x39, .int i4, .int i5, .int i6, .ref c3, .int i7, .int i8, .int i9])), (c0, .inl (dA 0, 4096, .inl f43)), (c1, .inl (dA 0, 8, .inl f44)), (c2, .inl (dA 0, 4, .inl m2)), (c3, .inl (dA 0, 30, .inl m3))] := hD
    have g45 := w42
    have g45 : ∀ j : Nat, 0 ≤ (f43 j).toInt ∧ (f43 j).toInt ≤ 255 := g45
    refine lv_iconst (v := 3) hx hb dX4_shift_65 (by decide) ?_
    exact g_iret hx hb hr rfl hlocks hK (x27, x38, x39, f43, f44) hP hD hS ⟨(show 0 ≤ ((3 : Int32)).toInt ∧ ((3 : Int32)).toInt ≤ 3 from by decide), g45⟩ (Nat.le_of_ble_eq_true rfl) (Nat.le_of_ble_eq_true rfl) dX4_shift_66
set_option maxHeartbeats 4000000 in
set_option maxRecDepth 100000 in
theorem s_X4_divide (l : Launch) (D : va_G) (dA : Nat → ClassId) (t0 : Nat) (a0 : Int32) (c0 : Nat) (c1 : Nat) (c2 : Nat) (i0 : Int32) (i1 : Int32) (i2 : Int32) (i3 : Int32) (i4 : Int32) (i5 : Int32) (i6 : Int32) (c3 : Nat) (i7 : Int32) (i8 : Int32) (i9 : Int32) (m0 : Nat → Int32) (m1 : Nat → Int32) (m2 : Nat → Int32) (m3 : Nat → Int32) (p0 : 0 ≤ i4.toInt ∧ i4.toInt ≤ 1) (p1 : 0 ≤ i6.toInt ∧ i6.toInt ≤ 1000000) (p2 : 0 ≤ i7.toInt ∧ i7.toInt ≤ 7) (p3 : -1 ≤ i8.toInt ∧ i8.toInt ≤ 7) (p4 : ∀ j : Nat, 0 ≤ (m0 j).toInt ∧ (m0 j).toInt ≤ 255) (sz : Nat) : Met l yX4_divide (gws yX4_divide cX4_divide 4 (some .int)) (gR 1 0 0) (gPre D dA [.ref t0, .int a0] [(t0, .inr (4, [.ref c0, .ref c1, .ref c2, .int i0, .int i1, .int i2, .int i3, .int i4, .int i5, .int i6, .ref c3, .int i7, .int i8, .int i9])), (c0, .inl (dA 0, 4096, .inl m0)), (c1, .inl (dA 0, 8, .inl m1)), (c2, .inl (dA 0, 4, .inl m2)), (c3, .inl (dA 0, 30, .inl m3))] sz) (va_Qi (fun (r : Int32) (u : (Nat → Int32)) => (0 ≤ r.toInt ∧ r.toInt ≤ 3)) (gAt D dA (va_A [(t0, .inr (4, [.ref c0, .ref c1, .ref c2, .int i0, .int i1, .int i2, .int i3, .int i4, .int i5, .int i6, .ref c3, .int i7, .int i8, .int i9])), (c0, .inl (dA 0, 4096, .inl m0)), (c1, .inl (dA 0, 8, .inl m1)), (c2, .inl (dA 0, 4, .inl m2)), (c3, .inl (dA 0, 30, .inl m3))] sz) (fun u : (Nat → Int32) => [(t0, .inr (4, [.ref c0, .ref c1, .ref c2, .int i0, .int i1, .int i2, .int i3, .int i4, .int i5, .int i6, .ref c3, .int i7, .int i8, .int i9])), (c0, .inl (dA 0, 4096, .inl m0)), (c1, .inl (dA 0, 8, .inl u)), (c2, .inl (dA 0, 4, .inl m2)), (c3, .inl (dA 0, 30, .inl m3))])) (va_A [(t0, .inr (4, [.ref c0, .ref c1, .ref c2, .int i0, .int i1, .int i2, .int i3, .int i4, .int i5, .int i6, .ref c3, .int i7, .int i8, .int i9])), (c0, .inl (dA 0, 4096, .inl m0)), (c1, .inl (dA 0, 8, .inl m1)), (c2, .inl (dA 0, 4, .inl m2)), (c3, .inl (dA 0, 30, .inl m3))] sz)) 0 0 (va_A [(t0, .inr (4, [.ref c0, .ref c1, .ref c2, .int i0, .int i1, .int i2, .int i3, .int i4, .int i5, .int i6, .ref c3, .int i7, .int i8, .int i9])), (c0, .inl (dA 0, 4096, .inl m0)), (c1, .inl (dA 0, 8, .inl m1)), (c2, .inl (dA 0, 4, .inl m2)), (c3, .inl (dA 0, 30, .inl m3))] sz) := by
  refine Met.ofW (cc := cX4_divide) (maxL := 4) (ret := (some .int)) (by decide) rfl ?_
  intro p e s m args below meth c s₁ B hml hv
  obtain ⟨rfl, hsz, hP, hK, hD0⟩ := hv
  have hx := B.exec
  have hb := B.bytes
  have hr := B.returns
  have hts := atoms_spec (ws := gws yX4_divide cX4_divide 4 (some .int)) B.pre
  have hg : ∀ w ∈ gw, w.before _ s = true := fun w h => hts w (List.mem_cons_of_mem _ h)
  have hown : s.vm.findClass RX4 = some m.cls := findClass_of_methodNamed B.named
  have hlocks := B.notSynchronized
  subst hsz
  have hD := hD0.self (sz := s.heap.size)
  generalize hAe : va_A [(t0, .inr (4, [.ref c0, .ref c1, .ref c2, .int i0, .int i1, .int i2, .int i3, .int i4, .int i5, .int i6, .ref c3, .int i7, .int i8, .int i9])), (c0, .inl (dA 0, 4096, .inl m0)), (c1, .inl (dA 0, 8, .inl m1)), (c2, .inl (dA 0, 4, .inl m2)), (c3, .inl (dA 0, 30, .inl m3))] s.heap.size = A at hD ⊢
  have hA : ∀ q : Nat, s.heap.size ≤ q → A q := fun q h => by rw [← hAe]; exact Or.inr h
  have hS : va_S A s.heap s.heap [] := va_S.rf
  have hP : va_P D vwC [(t0, .inr (4, [.ref c0, .ref c1, .ref c2, .int i0, .int i1, .int i2, .int i3, .int i4, .int i5, .int i6, .ref c3, .int i7, .int i8, .int i9])), (c0, .inl (dA 0, 4096, .inl m0)), (c1, .inl (dA 0, 8, .inl m1)), (c2, .inl (dA 0, 4, .inl m2)), (c3, .inl (dA 0, 30, .inl m3))] s.heap := hP
  have hl := lv_entry ([.ref t0, .int a0]) (n := 4) (Nat.le_of_ble_eq_true rfl)
  rw [lg_entry_eq]
  generalize (lg_sl ([.ref t0, .int a0]) ++ List.replicate (4 - (lg_sl ([.ref t0, .int a0])).length) Slot.unset).toArray = ls at hl ⊢
  have hl : lv_has ls 4 [(0, .ref t0), (1, .int a0)] := hl
  refine lv_ldc2 hx hb hown (hg _ q1484) dX4_divide_0 ?_
  refine lv_aload_n hx hb dX4_divide_3 rfl (lv_at hl 0 rfl) ?_
  refine g_get hx hb hg hown hK hP 0 rfl rfl inX4 1 (by decide) q554 rfl dX4_divide_4 ?_
  refine lv_iconst (v := 2) hx hb dX4_divide_7 (by decide) ?_
  refine va_iald hx hb hK hP 2 0 rfl rfl (by unfold vp_in; decide) dX4_divide_8 ?_
  refine lv_topi (fun x1 e2 => ?_)
  refine lv_i2l hx hb dX4_divide_9 rfl ?_
  refine lv_topl (fun y3 y3e => ?_)
  refine lv_lmul hx hb dX4_divide_10 ?_
  refine lv_topl (fun y4 y4e => ?_)
  refine lv_aload_n hx hb dX4_divide_11 rfl (lv_at hl 0 rfl) ?_
  refine g_get hx hb hg hown hK hP 0 rfl rfl inX4 1 (by decide) q554 rfl dX4_divide_12 ?_
  refine lv_iconst (v := 0) hx hb dX4_divide_15 (by decide) ?_
  refine va_iald hx hb hK hP 2 0 rfl rfl (by unfold vp_in; decide) dX4_divide_16 ?_
  refine lv_topi (fun x5 e6 => ?_)
  refine lv_i2l hx hb dX4_divide_17 rfl ?_
  refine lv_topl (fun y7 y7e => ?_)
  refine lv_ladd hx hb dX4_divide_18 ?_
  refine lv_topl (fun y8 y8e => ?_)
  refine lv_lstore_n (lv' := [(2, .long y8), (0, .ref t0), (1, .int a0)]) hx hb dX4_divide_19 rfl hl (by decide) rfl (fun ls hl => ?_)
  refine lv_iload_n hx hb dX4_divide_20 rfl (lv_at hl 2 rfl) ?_
  refine lv_if_eq (tgt := 35) hx hb dX4_divide_21 (by decide) (fun k9 => ?_) (fun k9 => ?_)
  · have g10 : a0.toInt = 0 := gi_eq (rfl : a0.toInt = a0.toInt) (by decide : (0 : Int32).toInt = 0) k9
    refine lv_iconst (v := 1) hx hb dX4_divide_35 (by decide) ?_
    exact g_iret hx hb hr rfl hlocks hK m1 hP hD hS (show 0 ≤ ((1 : Int32)).toInt ∧ ((1 : Int32)).toInt ≤ 3 from by decide) (Nat.le_of_ble_eq_true rfl) (Nat.le_of_ble_eq_true rfl) dX4_divide_36
  · have g11 : a0.toInt ≠ 0 := gi_neq (rfl : a0.toInt = a0.toInt) (by decide : (0 : Int32).toInt = 0) k9
    refine lv_lload_n hx hb dX4_divide_24 rfl (lv_at hl 0 rfl) ?_
    refine lv_iload_n hx hb dX4_divide_25 rfl (lv_at hl 2 rfl) ?_
    refine lv_i2l hx hb dX4_divide_26 rfl ?_
    refine lv_topl (fun y12 y12e => ?_)
    refine lv_ldiv hx hb dX4_divide_27 (g_nzl y12e (by omega)) ?_
    refine lv_topl (fun y13 y13e => ?_)
    refine lv_ldc2 hx hb hown (hg _ q1485) dX4_divide_28 ?_
    refine W.lcmp hx hb dX4_divide_31 ?_
    refine lv_topi (fun x14 e15 => ?_)
    refine lv_if_le (tgt := 37) hx hb dX4_divide_32 (by decide) (fun k16 => ?_) (fun k16 => ?_)
    · have g17 : x14.toInt ≤ 0 := gi_le (rfl : x14.toInt = x14.toInt) (by decide : (0 : Int32).toInt = 0) k16
      refine lv_aload_n hx hb dX4_divide_37 rfl (lv_at hl 1 rfl) ?_
      refine g_get hx hb hg hown hK hP 0 rfl rfl inX4 1 (by decide) q554 rfl dX4_divide_38 ?_
      refine lv_iconst (v := 0) hx hb dX4_divide_41 (by decide) ?_
      refine lv_lload_n hx hb dX4_divide_42 rfl (lv_at hl 0 rfl) ?_
      refine lv_iload_n hx hb dX4_divide_43 rfl (lv_at hl 2 rfl) ?_
      refine lv_i2l hx hb dX4_divide_44 rfl ?_
      refine lv_topl (fun y18 y18e => ?_)
      refine lv_ldiv hx hb dX4_divide_45 (g_nzl y18e (by omega)) ?_
      refine lv_topl (fun y19 y19e => ?_)
      refine lv_l2i hx hb dX4_divide_46 rfl ?_
      refine lv_topi (fun x20 e21 => ?_)
      refine va_iast hx hb hK hP hD hS 2 0 rfl rfl (by unfold vp_in; decide) dX4_divide_47 (fun H locs hP hD hS => ?_)
      have hP : va_P D vwC [(t0, .inr (4, [.ref c0, .ref c1, .ref c2, .int i0, .int i1, .int i2, .int i3, .int i4, .int i5, .int i6, .ref c3, .int i7, .int i8, .int i9])), (c0, .inl (dA 0, 4096, .inl m0)), (c1, .inl (dA 0, 8, .inl (upd m1 (0 : Int32).toNatClampNeg x20))), (c2, .inl (dA 0, 4, .inl m2)), (c3, .inl (dA 0, 30, .inl m3))] H := hP
      have hD : va_D A [(t0, .inr (4, [.ref c0, .ref c1, .ref c2, .int i0, .int i1, .int i2, .int i3, .int i4, .int i5, .int i6, .ref c3, .int i7, .int i8, .int i9])), (c0, .inl (dA 0, 4096, .inl m0)), (c1, .inl (dA 0, 8, .inl (upd m1 (0 : Int32).toNatClampNeg x20))), (c2, .inl (dA 0, 4, .inl m2)), (c3, .inl (dA 0, 30, .inl m3))] := hD
      obtain ⟨f22, ef22⟩ : ∃ f : Nat → Int32, f = (upd m1 (0 : Int32).toNatClampNeg x20) := ⟨_, rfl⟩
      rw [← ef22] at hP hD
      refine lv_aload_n hx hb dX4_divide_48 rfl (lv_at hl 1 rfl) ?_
      refine g_get hx hb hg hown hK hP 0 rfl rfl inX4 1 (by decide) q554 rfl dX4_divide_49 ?_
      refine lv_iconst (v := 2) hx hb dX4_divide_52 (by decide) ?_
      refine lv_lload_n hx hb dX4_divide_53 rfl (lv_at hl 0 rfl) ?_
      refine lv_iload_n hx hb dX4_divide_54 rfl (lv_at hl 2 rfl) ?_
      refine lv_i2l hx hb dX4_divide_55 rfl ?_
      refine lv_topl (fun y23 y23e => ?_)
      refine lv_lrem hx hb dX4_divide_56 (g_nzl y23e (by omega)) ?_
      refine lv_topl (fun y24 y24e => ?_)
      refine lv_l2i hx hb dX4_divide_57 rfl ?_
      refine lv_topi (fun x25 e26 => ?_)
      refine va_iast hx hb hK hP hD hS 2 0 rfl rfl (by unfold vp_in; decide) dX4_divide_58 (fun H locs hP hD hS => ?_)
      have hP : va_P D vwC [(t0, .inr (4, [.ref c0, .ref c1, .ref c2, .int i0, .int i1, .int i2, .int i3, .int i4, .int i5, .int i6, .ref c3, .int i7, .int i8, .int i9])), (c0, .inl (dA 0, 4096, .inl m0)), (c1, .inl (dA 0, 8, .inl (upd f22 (2 : Int32).toNatClampNeg x25))), (c2, .inl (dA 0, 4, .inl m2)), (c3, .inl (dA 0, 30, .inl m3))] H := hP
      have hD : va_D A [(t0, .inr (4, [.ref c0, .ref c1, .ref c2, .int i0, .int i1, .int i2, .int i3, .int i4, .int i5, .int i6, .ref c3, .int i7, .int i8, .int i9])), (c0, .inl (dA 0, 4096, .inl m0)), (c1, .inl (dA 0, 8, .inl (upd f22 (2 : Int32).toNatClampNeg x25))), (c2, .inl (dA 0, 4, .inl m2)), (c3, .inl (dA 0, 30, .inl m3))] := hD
      obtain ⟨f27, ef27⟩ : ∃ f : Nat → Int32, f = (upd f22 (2 : Int32).toNatClampNeg x25) := ⟨_, rfl⟩
      rw [← ef27] at hP hD
      refine lv_iconst (v := 3) hx hb dX4_divide_59 (by decide) ?_
      exact g_iret hx hb hr rfl hlocks hK f27 hP hD hS (show 0 ≤ ((3 : Int32)).toInt ∧ ((3 : Int32)).toInt ≤ 3 from by decide) (Nat.le_of_ble_eq_true rfl) (Nat.le_of_ble_eq_true rfl) dX4_divide_60
    · have g28 : x14.toInt > 0 := gi_nle (rfl : x14.toInt = x14.toInt) (by decide : (0 : Int32).toInt = 0) k16
      refine lv_iconst (v := 1) hx hb dX4_divide_35 (by decide) ?_
      exact g_iret hx hb hr rfl hlocks hK m1 hP hD hS (show 0 ≤ ((1 : Int32)).toInt ∧ ((1 : Int32)).toInt ≤ 3 from by decide) (Nat.le_of_ble_eq_true rfl) (Nat.le_of_ble_eq_true rfl) dX4_divide_36
set_option maxHeartbeats 4000000 in
set_option maxRecDepth 100000 in
theorem s_X4_single (l : Launch) (D : va_G) (dA : Nat → ClassId) (t0 : Nat) (c0 : Nat) (c1 : Nat) (c2 : Nat) (i0 : Int32) (i1 : Int32) (i2 : Int32) (i3 : Int32) (i4 : Int32) (i5 : Int32) (i6 : Int32) (c3 : Nat) (i7 : Int32) (i8 : Int32) (i9 : Int32) (m0 : Nat → Int32) (m1 : Nat → Int32) (m2 : Nat → Int32) (m3 : Nat → Int32) (p0 : 0 ≤ i4.toInt ∧ i4.toInt ≤ 1) (p1 : 0 ≤ i6.toInt ∧ i6.toInt ≤ 1000000) (p2 : 0 ≤ i7.toInt ∧ i7.toInt ≤ 7) (p3 : -1 ≤ i8.toInt ∧ i8.toInt ≤ 7) (p4 : ∀ j : Nat, 0 ≤ (m0 j).toInt ∧ (m0 j).toInt ≤ 255) (sz : Nat) : Met l yX4_single (gws yX4_single cX4_single 3 (some .int)) (gR 3 0 0) (gPre D dA [.ref t0] [(t0, .inr (4, [.ref c0, .ref c1, .ref c2, .int i0, .int i1, .int i2, .int i3, .int i4, .int i5, .int i6, .ref c3, .int i7, .int i8, .int i9])), (c0, .inl (dA 0, 4096, .inl m0)), (c1, .inl (dA 0, 8, .inl m1)), (c2, .inl (dA 0, 4, .inl m2)), (c3, .inl (dA 0, 30, .inl m3))] sz) (va_Qi (fun (r : Int32) (u : Int32 × Int32 × Int32 × (Nat → Int32) × (Nat → Int32)) => (0 ≤ r.toInt ∧ r.toInt ≤ 3) ∧ (∀ j : Nat, 0 ≤ (u.2.2.2.1 j).toInt ∧ (u.2.2.2.1 j).toInt ≤ 255)) (gAt D dA (va_A [(t0, .inr (4, [.ref c0, .ref c1, .ref c2, .int i0, .int i1, .int i2, .int i3, .int i4, .int i5, .int i6, .ref c3, .int i7, .int i8, .int i9])), (c0, .inl (dA 0, 4096, .inl m0)), (c1, .inl (dA 0, 8, .inl m1)), (c2, .inl (dA 0, 4, .inl m2)), (c3, .inl (dA 0, 30, .inl m3))] sz) (fun u : Int32 × Int32 × Int32 × (Nat → Int32) × (Nat → Int32) => [(t0, .inr (4, [.ref c0, .ref c1, .ref c2, .int i0, .int u.1, .int u.2.1, .int u.2.2.1, .int i4, .int i5, .int i6, .ref c3, .int i7, .int i8, .int i9])), (c0, .inl (dA 0, 4096, .inl (u.2.2.2.1))), (c1, .inl (dA 0, 8, .inl (u.2.2.2.2))), (c2, .inl (dA 0, 4, .inl m2)), (c3, .inl (dA 0, 30, .inl m3))])) (va_A [(t0, .inr (4, [.ref c0, .ref c1, .ref c2, .int i0, .int i1, .int i2, .int i3, .int i4, .int i5, .int i6, .ref c3, .int i7, .int i8, .int i9])), (c0, .inl (dA 0, 4096, .inl m0)), (c1, .inl (dA 0, 8, .inl m1)), (c2, .inl (dA 0, 4, .inl m2)), (c3, .inl (dA 0, 30, .inl m3))] sz)) 0 0 (va_A [(t0, .inr (4, [.ref c0, .ref c1, .ref c2, .int i0, .int i1, .int i2, .int i3, .int i4, .int i5, .int i6, .ref c3, .int i7, .int i8, .int i9])), (c0, .inl (dA 0, 4096, .inl m0)), (c1, .inl (dA 0, 8, .inl m1)), (c2, .inl (dA 0, 4, .inl m2)), (c3, .inl (dA 0, 30, .inl m3))] sz) := by
  refine Met.ofW (cc := cX4_single) (maxL := 3) (ret := (some .int)) (by decide) rfl ?_
  intro p e s m args below meth c s₁ B hml hv
  obtain ⟨rfl, hsz, hP, hK, hD0⟩ := hv
  have hx := B.exec
  have hb := B.bytes
  have hr := B.returns
  have hts := atoms_spec (ws := gws yX4_single cX4_single 3 (some .int)) B.pre
  have hg : ∀ w ∈ gw, w.before _ s = true := fun w h => hts w (List.mem_cons_of_mem _ h)
  have hown : s.vm.findClass RX4 = some m.cls := findClass_of_methodNamed B.named
  have hlocks := B.notSynchronized
  subst hsz
  have hD := hD0.self (sz := s.heap.size)
  generalize hAe : va_A [(t0, .inr (4, [.ref c0, .ref c1, .ref c2, .int i0, .int i1, .int i2, .int i3, .int i4, .int i5, .int i6, .ref c3, .int i7, .int i8, .int i9])), (c0, .inl (dA 0, 4096, .inl m0)), (c1, .inl (dA 0, 8, .inl m1)), (c2, .inl (dA 0, 4, .inl m2)), (c3, .inl (dA 0, 30, .inl m3))] s.heap.size = A at hD ⊢
  have hA : ∀ q : Nat, s.heap.size ≤ q → A q := fun q h => by rw [← hAe]; exact Or.inr h
  have hS : va_S A s.heap s.heap [] := va_S.rf
  have hP : va_P D vwC [(t0, .inr (4, [.ref c0, .ref c1, .ref c2, .int i0, .int i1, .int i2, .int i3, .int i4, .int i5, .int i6, .ref c3, .int i7, .int i8, .int i9])), (c0, .inl (dA 0, 4096, .inl m0)), (c1, .inl (dA 0, 8, .inl m1)), (c2, .inl (dA 0, 4, .inl m2)), (c3, .inl (dA 0, 30, .inl m3))] s.heap := hP
  have hl := lv_entry ([.ref t0]) (n := 3) (Nat.le_of_ble_eq_true rfl)
  rw [lg_entry_eq]
  generalize (lg_sl ([.ref t0]) ++ List.replicate (3 - (lg_sl ([.ref t0])).length) Slot.unset).toArray = ls at hl ⊢
  have hl : lv_has ls 3 [(0, .ref t0)] := hl
  refine lv_aload_n hx hb dX4_single_0 rfl (lv_at hl 0 rfl) ?_
  refine g_get hx hb hg hown hK hP 0 rfl rfl inX4 11 (by decide) q574 rfl dX4_single_1 ?_
  by_cases s1 : i7 = 3
  · have g2 : i7.toInt = 3 := by rw [s1]; decide
    refine lv_tableIn (tgt := 36) hx hb dX4_single_4 (by rw [s1]; decide) (by rw [s1]; decide) (by rw [s1]; rfl) (by decide) ?_
    refine lv_aload_n hx hb dX4_single_36 rfl (lv_at hl 0 rfl) ?_
    refine lv_aload_n hx hb dX4_single_37 rfl (lv_at hl 0 rfl) ?_
    refine lv_iconst (v := 5) hx hb dX4_single_38 (by decide) ?_
    refine lv_iconst (v := 0) hx hb dX4_single_39 (by decide) ?_
    refine lv_aload_n hx hb dX4_single_40 rfl (lv_at hl 0 rfl) ?_
    refine g_Vi (n := 0) (As := []) (rest := [.int 0, .int 5, .ref t0, .ref t0]) (wr := []) hx hb hml hg hown hK hP hD hS hA (s_X4_readM l D dA t0 c0 c1 c2 i0 i1 i2 i3 i4 i5 i6 c3 i7 i8 i9 m0 m1 m2 m3 (by omega) (by omega) (by omega) (by omega) p4 _) [0, 1, 2, 3, 4] [] rfl (by decide) rfl (by decide) (by decide) 0 rfl rfl q1443 q159 q1440 q1442 q62 (by decide +kernel) ⟨(Nat.le_of_ble_eq_true rfl), (Nat.le_of_ble_eq_true rfl)⟩ rfl hl.1 rfl (Nat.le_of_ble_eq_true rfl) dX4_single_41 ⟨(Nat.le_of_ble_eq_true rfl), (Nat.le_of_ble_eq_true rfl)⟩ (fun x4 u3 H locs w5 hP hD hS => ?_)
    refine W.widen (k := 0) (n := 0) (Nat.le_of_ble_eq_true rfl) (Nat.le_of_ble_eq_true rfl) ?_
    have hP : va_P D vwC [(t0, .inr (4, [.ref c0, .ref c1, .ref c2, .int i0, .int i1, .int i2, .int i3, .int i4, .int i5, .int i6, .ref c3, .int i7, .int i8, .int i9])), (c0, .inl (dA 0, 4096, .inl m0)), (c1, .inl (dA 0, 8, .inl m1)), (c2, .inl (dA 0, 4, .inl m2)), (c3, .inl (dA 0, 30, .inl m3))] H := hP
    have hD : va_D A [(t0, .inr (4, [.ref c0, .ref c1, .ref c2, .int i0, .int i1, .int i2, .int i3, .int i4, .int i5, .int i6, .ref c3, .int i7, .int i8, .int i9])), (c0, .inl (dA 0, 4096, .inl m0)), (c1, .inl (dA 0, 8, .inl m1)), (c2, .inl (dA 0, 4, .inl m2)), (c3, .inl (dA 0, 30, .inl m3))] := hD
    refine g_Vi (n := 3) (As := [.int 5, .int 0, .int x4]) (rest := [.ref t0]) (wr := []) hx hb hml hg hown hK hP hD hS hA (s_X4_arithmetic l D dA t0 (5) (0) x4 c0 c1 c2 i0 i1 i2 i3 i4 i5 i6 c3 i7 i8 i9 m0 m1 m2 m3 (by omega) (by omega) (by omega) (by omega) p4 _) [0, 1, 2, 3, 4] [] rfl (by decide) rfl (by decide) (by decide) 0 rfl rfl q1447 q159 q1444 q1446 q63 (by decide +kernel) ⟨(Nat.le_of_ble_eq_true rfl), (Nat.le_of_ble_eq_true rfl)⟩ rfl hl.1 rfl (Nat.le_of_ble_eq_true rfl) dX4_single_44 ⟨(Nat.le_of_ble_eq_true rfl), (Nat.le_of_ble_eq_true rfl)⟩ (fun x7 u6 H locs w8 hP hD hS => ?_)
    refine W.widen (k := 0) (n := 0) (Nat.le_of_ble_eq_true rfl) (Nat.le_of_ble_eq_true rfl) ?_
    obtain ⟨x9, x10, x11⟩ := u6
    have hP : va_P D vwC [(t0, .inr (4, [.ref c0, .ref c1, .ref c2, .int i0, .int x9, .int x10, .int x11, .int i4, .int i5, .int i6, .ref c3, .int i7, .int i8, .int i9])), (c0, .inl (dA 0, 4096, .inl m0)), (c1, .inl (dA 0, 8, .inl m1)), (c2, .inl (dA 0, 4, .inl m2)), (c3, .inl (dA 0, 30, .inl m3))] H := hP
    have hD : va_D A [(t0, .inr (4, [.ref c0, .ref c1, .ref c2, .int i0, .int x9, .int x10, .int x11, .int i4, .int i5, .int i6, .ref c3, .int i7, .int i8, .int i9])), (c0, .inl (dA 0, 4096, .inl m0)), (c1, .inl (dA 0, 8, .inl m1)), (c2, .inl (dA 0, 4, .inl m2)), (c3, .inl (dA 0, 30, .inl m3))] := hD
    refine g_Vv (n := 1) (As := [.int x7]) (rest := []) (wr := []) hx hb hml hg hown hK hP hD hS hA (s_X4_writeM l D dA t0 x7 c0 c1 c2 i0 x9 x10 x11 i4 i5 i6 c3 i7 i8 i9 m0 m1 m2 m3 (by omega) (by omega) (by omega) (by omega) p4 _) [0, 1, 2, 3, 4] [] rfl (by decide) rfl (by decide) (by decide) 0 rfl rfl q1455 q159 q1452 q1454 q65 (by decide +kernel) ⟨(Nat.le_of_ble_eq_true rfl), (Nat.le_of_ble_eq_true rfl)⟩ rfl hl.1 rfl (Nat.le_of_ble_eq_true rfl) dX4_single_47 ⟨(Nat.le_of_ble_eq_true rfl), (Nat.le_of_ble_eq_true rfl)⟩ (fun u12 H locs w14 hP hD hS => ?_)
    refine W.widen (k := 0) (n := 0) (Nat.le_of_ble_eq_true rfl) (Nat.le_of_ble_eq_true rfl) ?_
    obtain ⟨f15, f16⟩ := u12
    have hP : va_P D vwC [(t0, .inr (4, [.ref c0, .ref c1, .ref c2, .int i0, .int x9, .int x10, .int x11, .int i4, .int i5, .int i6, .ref c3, .int i7, .int i8, .int i9])), (c0, .inl (dA 0, 4096, .inl f15)), (c1, .inl (dA 0, 8, .inl f16)), (c2, .inl (dA 0, 4, .inl m2)), (c3, .inl (dA 0, 30, .inl m3))] H := hP
    have hD : va_D A [(t0, .inr (4, [.ref c0, .ref c1, .ref c2, .int i0, .int x9, .int x10, .int x11, .int i4, .int i5, .int i6, .ref c3, .int i7, .int i8, .int i9])), (c0, .inl (dA 0, 4096, .inl f15)), (c1, .inl (dA 0, 8, .inl f16)), (c2, .inl (dA 0, 4, .inl m2)), (c3, .inl (dA 0, 30, .inl m3))] := hD
    have g17 := w14
    have g17 : ∀ j : Nat, 0 ≤ (f15 j).toInt ∧ (f15 j).toInt ≤ 255 := g17
    refine lv_iconst (v := 3) hx hb dX4_single_50 (by decide) ?_
    exact g_iret hx hb hr rfl hlocks hK (x9, x10, x11, f15, f16) hP hD hS ⟨(show 0 ≤ ((3 : Int32)).toInt ∧ ((3 : Int32)).toInt ≤ 3 from by decide), g17⟩ (Nat.le_of_ble_eq_true rfl) (Nat.le_of_ble_eq_true rfl) dX4_single_51
  by_cases s18 : i7 = 4
  · have g19 : i7.toInt = 4 := by rw [s18]; decide
    refine lv_tableIn (tgt := 52) hx hb dX4_single_4 (by rw [s18]; decide) (by rw [s18]; decide) (by rw [s18]; rfl) (by decide) ?_
    refine lv_aload_n hx hb dX4_single_52 rfl (lv_at hl 0 rfl) ?_
    refine g_get hx hb hg hown hK hP 0 rfl rfl inX4 1 (by decide) q554 rfl dX4_single_53 ?_
    refine lv_iconst (v := 0) hx hb dX4_single_56 (by decide) ?_
    refine va_iald hx hb hK hP 2 0 rfl rfl (by unfold vp_in; decide) dX4_single_57 ?_
    refine lv_topi (fun x20 e21 => ?_)
    refine lv_i2l hx hb dX4_single_58 rfl ?_
    refine lv_topl (fun y22 y22e => ?_)
    refine lv_aload_n hx hb dX4_single_59 rfl (lv_at hl 0 rfl) ?_
    refine g_Vi (n := 0) (As := []) (rest := [.long y22]) (wr := []) hx hb hml hg hown hK hP hD hS hA (s_X4_readM l D dA t0 c0 c1 c2 i0 i1 i2 i3 i4 i5 i6 c3 i7 i8 i9 m0 m1 m2 m3 (by omega) (by omega) (by omega) (by omega) p4 _) [0, 1, 2, 3, 4] [] rfl (by decide) rfl (by decide) (by decide) 0 rfl rfl q1443 q159 q1440 q1442 q62 (by decide +kernel) ⟨(Nat.le_of_ble_eq_true rfl), (Nat.le_of_ble_eq_true rfl)⟩ rfl hl.1 rfl (Nat.le_of_ble_eq_true rfl) dX4_single_60 ⟨(Nat.le_of_ble_eq_true rfl), (Nat.le_of_ble_eq_true rfl)⟩ (fun x24 u23 H locs w25 hP hD hS => ?_)
    refine W.widen (k := 0) (n := 0) (Nat.le_of_ble_eq_true rfl) (Nat.le_of_ble_eq_true rfl) ?_
    have hP : va_P D vwC [(t0, .inr (4, [.ref c0, .ref c1, .ref c2, .int i0, .int i1, .int i2, .int i3, .int i4, .int i5, .int i6, .ref c3, .int i7, .int i8, .int i9])), (c0, .inl (dA 0, 4096, .inl m0)), (c1, .inl (dA 0, 8, .inl m1)), (c2, .inl (dA 0, 4, .inl m2)), (c3, .inl (dA 0, 30, .inl m3))] H := hP
    have hD : va_D A [(t0, .inr (4, [.ref c0, .ref c1, .ref c2, .int i0, .int i1, .int i2, .int i3, .int i4, .int i5, .int i6, .ref c3, .int i7, .int i8, .int i9])), (c0, .inl (dA 0, 4096, .inl m0)), (c1, .inl (dA 0, 8, .inl m1)), (c2, .inl (dA 0, 4, .inl m2)), (c3, .inl (dA 0, 30, .inl m3))] := hD
    refine lv_i2l hx hb dX4_single_63 rfl ?_
    refine lv_topl (fun y26 y26e => ?_)
    refine lv_lmul hx hb dX4_single_64 ?_
    refine lv_topl (fun y27 y27e => ?_)
    refine lv_lstore_n (lv' := [(1, .long y27), (0, .ref t0)]) hx hb dX4_single_65 rfl hl (by decide) rfl (fun ls hl => ?_)
    refine lv_aload_n hx hb dX4_single_66 rfl (lv_at hl 1 rfl) ?_
    refine g_get hx hb hg hown hK hP 0 rfl rfl inX4 1 (by decide) q554 rfl dX4_single_67 ?_
    refine lv_iconst (v := 0) hx hb dX4_single_70 (by decide) ?_
    refine lv_lload_n hx hb dX4_single_71 rfl (lv_at hl 0 rfl) ?_
    refine lv_l2i hx hb dX4_single_72 rfl ?_
    refine lv_topi (fun x28 e29 => ?_)
    refine lv_ldc hx hb hown (hg _ q1400) dX4_single_73 ?_
    refine lv_iand hx hb dX4_single_75 ?_
    refine lv_topi (fun x30 e31 => ?_)
    have g32 : 0 ≤ x30.toInt ∧ x30.toInt ≤ 65535 := g_msk e31 16 (by decide) (by decide) (by decide)
    refine va_iast hx hb hK hP hD hS 2 0 rfl rfl (by unfold vp_in; decide) dX4_single_76 (fun H locs hP hD hS => ?_)
    have hP : va_P D vwC [(t0, .inr (4, [.ref c0, .ref c1, .ref c2, .int i0, .int i1, .int i2, .int i3, .int i4, .int i5, .int i6, .ref c3, .int i7, .int i8, .int i9])), (c0, .inl (dA 0, 4096, .inl m0)), (c1, .inl (dA 0, 8, .inl (upd m1 (0 : Int32).toNatClampNeg x30))), (c2, .inl (dA 0, 4, .inl m2)), (c3, .inl (dA 0, 30, .inl m3))] H := hP
    have hD : va_D A [(t0, .inr (4, [.ref c0, .ref c1, .ref c2, .int i0, .int i1, .int i2, .int i3, .int i4, .int i5, .int i6, .ref c3, .int i7, .int i8, .int i9])), (c0, .inl (dA 0, 4096, .inl m0)), (c1, .inl (dA 0, 8, .inl (upd m1 (0 : Int32).toNatClampNeg x30))), (c2, .inl (dA 0, 4, .inl m2)), (c3, .inl (dA 0, 30, .inl m3))] := hD
    obtain ⟨f33, ef33⟩ : ∃ f : Nat → Int32, f = (upd m1 (0 : Int32).toNatClampNeg x30) := ⟨_, rfl⟩
    rw [← ef33] at hP hD
    refine lv_aload_n hx hb dX4_single_77 rfl (lv_at hl 1 rfl) ?_
    refine g_get hx hb hg hown hK hP 0 rfl rfl inX4 1 (by decide) q554 rfl dX4_single_78 ?_
    refine lv_iconst (v := 2) hx hb dX4_single_81 (by decide) ?_
    refine lv_lload_n hx hb dX4_single_82 rfl (lv_at hl 0 rfl) ?_
    refine lv_bipush (v := 16) hx hb dX4_single_83 (by decide) ?_
    refine lv_lshr hx hb dX4_single_85 rfl ?_
    refine lv_topl (fun y34 y34e => ?_)
    refine lv_l2i hx hb dX4_single_86 rfl ?_
    refine lv_topi (fun x35 e36 => ?_)
    refine lv_ldc hx hb hown (hg _ q1400) dX4_single_87 ?_
    refine lv_iand hx hb dX4_single_89 ?_
    refine lv_topi (fun x37 e38 => ?_)
    have g39 : 0 ≤ x37.toInt ∧ x37.toInt ≤ 65535 := g_msk e38 16 (by decide) (by decide) (by decide)
    refine va_iast hx hb hK hP hD hS 2 0 rfl rfl (by unfold vp_in; decide) dX4_single_90 (fun H locs hP hD hS => ?_)
    have hP : va_P D vwC [(t0, .inr (4, [.ref c0, .ref c1, .ref c2, .int i0, .int i1, .int i2, .int i3, .int i4, .int i5, .int i6, .ref c3, .int i7, .int i8, .int i9])), (c0, .inl (dA 0, 4096, .inl m0)), (c1, .inl (dA 0, 8, .inl (upd f33 (2 : Int32).toNatClampNeg x37))), (c2, .inl (dA 0, 4, .inl m2)), (c3, .inl (dA 0, 30, .inl m3))] H := hP
    have hD : va_D A [(t0, .inr (4, [.ref c0, .ref c1, .ref c2, .int i0, .int i1, .int i2, .int i3, .int i4, .int i5, .int i6, .ref c3, .int i7, .int i8, .int i9])), (c0, .inl (dA 0, 4096, .inl m0)), (c1, .inl (dA 0, 8, .inl (upd f33 (2 : Int32).toNatClampNeg x37))), (c2, .inl (dA 0, 4, .inl m2)), (c3, .inl (dA 0, 30, .inl m3))] := hD
    obtain ⟨f40, ef40⟩ : ∃ f : Nat → Int32, f = (upd f33 (2 : Int32).toNatClampNeg x37) := ⟨_, rfl⟩
    rw [← ef40] at hP hD
    refine lv_aload_n hx hb dX4_single_91 rfl (lv_at hl 1 rfl) ?_
    refine lv_aload_n hx hb dX4_single_92 rfl (lv_at hl 1 rfl) ?_
    refine g_get hx hb hg hown hK hP 0 rfl rfl inX4 1 (by decide) q554 rfl dX4_single_93 ?_
    refine lv_iconst (v := 2) hx hb dX4_single_96 (by decide) ?_
    refine va_iald hx hb hK hP 2 0 rfl rfl (by unfold vp_in; decide) dX4_single_97 ?_
    refine lv_topi (fun x41 e42 => ?_)
    refine lv_if_eq (tgt := 105) hx hb dX4_single_98 (by decide) (fun k43 => ?_) (fun k43 => ?_)
    · have g44 : x41.toInt = 0 := gi_eq (rfl : x41.toInt = x41.toInt) (by decide : (0 : Int32).toInt = 0) k43
      refine lv_iconst (v := 0) hx hb dX4_single_105 (by decide) ?_
      refine g_put (w' := [(t0, .inr (4, [.ref c0, .ref c1, .ref c2, .int i0, .int 0, .int i2, .int i3, .int i4, .int i5, .int i6, .ref c3, .int i7, .int i8, .int i9])), (c0, .inl (dA 0, 4096, .inl m0)), (c1, .inl (dA 0, 8, .inl f40)), (c2, .inl (dA 0, 4, .inl m2)), (c3, .inl (dA 0, 30, .inl m3))]) hx hb hg hown hK hP hD hS 0 rfl rfl inX4 tyX4_ok nmX4 4 (by decide) q560 rfl rfl rfl (Nat.le_of_ble_eq_true rfl) rfl dX4_single_106 (fun H locs hP hD hS => ?_)
      refine lv_iconst (v := 3) hx hb dX4_single_109 (by decide) ?_
      exact g_iret hx hb hr rfl hlocks hK (0, i2, i3, m0, f40) hP hD hS ⟨(show 0 ≤ ((3 : Int32)).toInt ∧ ((3 : Int32)).toInt ≤ 3 from by decide), p4⟩ (Nat.le_of_ble_eq_true rfl) (Nat.le_of_ble_eq_true rfl) dX4_single_110
    · have g45 : x41.toInt ≠ 0 := gi_neq (rfl : x41.toInt = x41.toInt) (by decide : (0 : Int32).toInt = 0) k43
      refine lv_iconst (v := 1) hx hb dX4_single_101 (by decide) ?_
      refine lv_goto (tgt := 106) hx hb dX4_single_102 (by decide) ?_
      refine g_put (w' := [(t0, .inr (4, [.ref c0, .ref c1, .ref c2, .int i0, .int 1, .int i2, .int i3, .int i4, .int i5, .int i6, .ref c3, .int i7, .int i8, .int i9])), (c0, .inl (dA 0, 4096, .inl m0)), (c1, .inl (dA 0, 8, .inl f40)), (c2, .inl (dA 0, 4, .inl m2)), (c3, .inl (dA 0, 30, .inl m3))]) hx hb hg hown hK hP hD hS 0 rfl rfl inX4 tyX4_ok nmX4 4 (by decide) q560 rfl rfl rfl (Nat.le_of_ble_eq_true rfl) rfl dX4_single_106 (fun H locs hP hD hS => ?_)
      refine lv_iconst (v := 3) hx hb dX4_single_109 (by decide) ?_
      exact g_iret hx hb hr rfl hlocks hK (1, i2, i3, m0, f40) hP hD hS ⟨(show 0 ≤ ((3 : Int32)).toInt ∧ ((3 : Int32)).toInt ≤ 3 from by decide), p4⟩ (Nat.le_of_ble_eq_true rfl) (Nat.le_of_ble_eq_true rfl) dX4_single_110
  by_cases s46 : i7 = 5
  · have g47 : i7.toInt = 5 := by rw [s46]; decide
    refine lv_tableIn (tgt := 120) hx hb dX4_single_4 (by rw [s46]; decide) (by rw [s46]; decide) (by rw [s46]; rfl) (by decide) ?_
    refine lv_iconst (v := 2) hx hb dX4_single_120 (by decide) ?_
    exact g_iret hx hb hr rfl hlocks hK (i1, i2, i3, m0, m1) hP hD hS ⟨(show 0 ≤ ((2 : Int32)).toInt ∧ ((2 : Int32)).toInt ≤ 3 from by decide), p4⟩ (Nat.le_of_ble_eq_true rfl) (Nat.le_of_ble_eq_true rfl) dX4_single_121
  by_cases s48 : i7 = 6
  · have g49 : i7.toInt = 6 := by rw [s48]; decide
    refine lv_tableIn (tgt := 111) hx hb dX4_single_4 (by rw [s48]; decide) (by rw [s48]; decide) (by rw [s48]; rfl) (by decide) ?_
    refine lv_aload_n hx hb dX4_single_111 rfl (lv_at hl 0 rfl) ?_
    refine lv_aload_n hx hb dX4_single_112 rfl (lv_at hl 0 rfl) ?_
    refine g_Vi (n := 0) (As := []) (rest := [.ref t0]) (wr := []) hx hb hml hg hown hK hP hD hS hA (s_X4_readM l D dA t0 c0 c1 c2 i0 i1 i2 i3 i4 i5 i6 c3 i7 i8 i9 m0 m1 m2 m3 (by omega) (by omega) (by omega) (by omega) p4 _) [0, 1, 2, 3, 4] [] rfl (by decide) rfl (by decide) (by decide) 0 rfl rfl q1443 q159 q1440 q1442 q62 (by decide +kernel) ⟨(Nat.le_of_ble_eq_true rfl), (Nat.le_of_ble_eq_true rfl)⟩ rfl hl.1 rfl (Nat.le_of_ble_eq_true rfl) dX4_single_113 ⟨(Nat.le_of_ble_eq_true rfl), (Nat.le_of_ble_eq_true rfl)⟩ (fun x51 u50 H locs w52 hP hD hS => ?_)
    refine W.widen (k := 0) (n := 0) (Nat.le_of_ble_eq_true rfl) (Nat.le_of_ble_eq_true rfl) ?_
    have hP : va_P D vwC [(t0, .inr (4, [.ref c0, .ref c1, .ref c2, .int i0, .int i1, .int i2, .int i3, .int i4, .int i5, .int i6, .ref c3, .int i7, .int i8, .int i9])), (c0, .inl (dA 0, 4096, .inl m0)), (c1, .inl (dA 0, 8, .inl m1)), (c2, .inl (dA 0, 4, .inl m2)), (c3, .inl (dA 0, 30, .inl m3))] H := hP
    have hD : va_D A [(t0, .inr (4, [.ref c0, .ref c1, .ref c2, .int i0, .int i1, .int i2, .int i3, .int i4, .int i5, .int i6, .ref c3, .int i7, .int i8, .int i9])), (c0, .inl (dA 0, 4096, .inl m0)), (c1, .inl (dA 0, 8, .inl m1)), (c2, .inl (dA 0, 4, .inl m2)), (c3, .inl (dA 0, 30, .inl m3))] := hD
    refine g_Vi (n := 1) (As := [.int x51]) (rest := []) (wr := []) hx hb hml hg hown hK hP hD hS hA (s_X4_divide l D dA t0 x51 c0 c1 c2 i0 i1 i2 i3 i4 i5 i6 c3 i7 i8 i9 m0 m1 m2 m3 (by omega) (by omega) (by omega) (by omega) p4 _) [0, 1, 2, 3, 4] [] rfl (by decide) rfl (by decide) (by decide) 0 rfl rfl q1483 q159 q1480 q1482 q72 (by decide +kernel) ⟨(Nat.le_of_ble_eq_true rfl), (Nat.le_of_ble_eq_true rfl)⟩ rfl hl.1 rfl (Nat.le_of_ble_eq_true rfl) dX4_single_116 ⟨(Nat.le_of_ble_eq_true rfl), (Nat.le_of_ble_eq_true rfl)⟩ (fun x54 u53 H locs w55 hP hD hS => ?_)
    refine W.widen (k := 0) (n := 0) (Nat.le_of_ble_eq_true rfl) (Nat.le_of_ble_eq_true rfl) ?_
    obtain ⟨f56, rfl⟩ : ∃ z, z = u53 := ⟨_, rfl⟩
    have hP : va_P D vwC [(t0, .inr (4, [.ref c0, .ref c1, .ref c2, .int i0, .int i1, .int i2, .int i3, .int i4, .int i5, .int i6, .ref c3, .int i7, .int i8, .int i9])), (c0, .inl (dA 0, 4096, .inl m0)), (c1, .inl (dA 0, 8, .inl f56)), (c2, .inl (dA 0, 4, .inl m2)), (c3, .inl (dA 0, 30, .inl m3))] H := hP
    have hD : va_D A [(t0, .inr (4, [.ref c0, .ref c1, .ref c2, .int i0, .int i1, .int i2, .int i3, .int i4, .int i5, .int i6, .ref c3, .int i7, .int i8, .int i9])), (c0, .inl (dA 0, 4096, .inl m0)), (c1, .inl (dA 0, 8, .inl f56)), (c2, .inl (dA 0, 4, .inl m2)), (c3, .inl (dA 0, 30, .inl m3))] := hD
    have g57 := w55
    have g57 : 0 ≤ x54.toInt ∧ x54.toInt ≤ 3 := g57
    exact g_iret hx hb hr rfl hlocks hK (i1, i2, i3, m0, f56) hP hD hS ⟨(show 0 ≤ x54.toInt ∧ x54.toInt ≤ 3 from by omega), p4⟩ (Nat.le_of_ble_eq_true rfl) (Nat.le_of_ble_eq_true rfl) dX4_single_119
  have g58 : i7.toInt ≠ 3 := lv_neT s1 (by decide)
  have g59 : i7.toInt ≠ 4 := lv_neT s18 (by decide)
  have g60 : i7.toInt ≠ 5 := lv_neT s46 (by decide)
  have g61 : i7.toInt ≠ 6 := lv_neT s48 (by decide)
  refine lv_tableOut (tgt := 120) hx hb dX4_single_4 (by omega) (by decide) ?_
  refine lv_iconst (v := 2) hx hb dX4_single_120 (by decide) ?_
  exact g_iret hx hb hr rfl hlocks hK (i1, i2, i3, m0, m1) hP hD hS ⟨(show 0 ≤ ((2 : Int32)).toInt ∧ ((2 : Int32)).toInt ≤ 3 from by decide), p4⟩ (Nat.le_of_ble_eq_true rfl) (Nat.le_of_ble_eq_true rfl) dX4_single_121
