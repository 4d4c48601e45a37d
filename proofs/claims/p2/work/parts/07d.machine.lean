theorem q58 : Cond.selects RX4 yX4_registerSum yX4_registerSum ∈ gw := gw_in (i := 58) (by decide +kernel) rfl
theorem q59 : Cond.selects RX4 yX4_fetchWord yX4_fetchWord ∈ gw := gw_in (i := 59) (by decide +kernel) rfl
theorem q60 : Cond.selects RX4 yX4_fetchSigned yX4_fetchSigned ∈ gw := gw_in (i := 60) (by decide +kernel) rfl
theorem q1424 : Cond.methodLink RX4 167 yX4_registerSum ∈ gw := gw_in (i := 1424) (by decide +kernel) rfl
theorem q1426 : Cond.instanceMethod yX4_registerSum ∈ gw := gw_in (i := 1426) (by decide +kernel) rfl
theorem q1427 : Cond.code yX4_registerSum cX4_registerSum 3 (some .int) ∈ gw := gw_in (i := 1427) (by decide +kernel) rfl
theorem q1428 : Cond.methodLink RX4 106 yX4_fetchWord ∈ gw := gw_in (i := 1428) (by decide +kernel) rfl
theorem q1430 : Cond.instanceMethod yX4_fetchWord ∈ gw := gw_in (i := 1430) (by decide +kernel) rfl
theorem q1431 : Cond.code yX4_fetchWord cX4_fetchWord 2 (some .int) ∈ gw := gw_in (i := 1431) (by decide +kernel) rfl
theorem q1432 : Cond.methodLink RX4 142 yX4_fetchSigned ∈ gw := gw_in (i := 1432) (by decide +kernel) rfl
theorem q1434 : Cond.instanceMethod yX4_fetchSigned ∈ gw := gw_in (i := 1434) (by decide +kernel) rfl
theorem q1435 : Cond.code yX4_fetchSigned cX4_fetchSigned 1 (some .int) ∈ gw := gw_in (i := 1435) (by decide +kernel) rfl
theorem dX4_registerSum_0 : decode cX4_registerSum 0 = .ok (.iload_n 1, 1) := by decide +kernel
theorem dX4_registerSum_1 : decode cX4_registerSum 1 = .ok (.lookupswitch 41 #[(6, 27), (7, 34)], 27) := by decide +kernel
theorem dX4_registerSum_28 : decode cX4_registerSum 28 = .ok (.aload_n 0, 1) := by decide +kernel
theorem dX4_registerSum_29 : decode cX4_registerSum 29 = .ok (.getfield 13, 3) := by decide +kernel
theorem dX4_registerSum_32 : decode cX4_registerSum 32 = .ok (.iconst 5, 1) := by decide +kernel
theorem dX4_registerSum_33 : decode cX4_registerSum 33 = .ok (.iaload, 1) := by decide +kernel
theorem dX4_registerSum_34 : decode cX4_registerSum 34 = .ok (.ireturn, 1) := by decide +kernel
theorem dX4_registerSum_35 : decode cX4_registerSum 35 = .ok (.aload_n 0, 1) := by decide +kernel
theorem dX4_registerSum_36 : decode cX4_registerSum 36 = .ok (.getfield 13, 3) := by decide +kernel
theorem dX4_registerSum_39 : decode cX4_registerSum 39 = .ok (.iconst 3, 1) := by decide +kernel
theorem dX4_registerSum_40 : decode cX4_registerSum 40 = .ok (.iaload, 1) := by decide +kernel
theorem dX4_registerSum_41 : decode cX4_registerSum 41 = .ok (.ireturn, 1) := by decide +kernel
theorem dX4_registerSum_42 : decode cX4_registerSum 42 = .ok (.aload_n 0, 1) := by decide +kernel
theorem dX4_registerSum_43 : decode cX4_registerSum 43 = .ok (.getfield 13, 3) := by decide +kernel
theorem dX4_registerSum_46 : decode cX4_registerSum 46 = .ok (.bipush 6, 2) := by decide +kernel
theorem dX4_registerSum_48 : decode cX4_registerSum 48 = .ok (.iload_n 1, 1) := by decide +kernel
theorem dX4_registerSum_49 : decode cX4_registerSum 49 = .ok (.iconst 1, 1) := by decide +kernel
theorem dX4_registerSum_50 : decode cX4_registerSum 50 = .ok (.iand, 1) := by decide +kernel
theorem dX4_registerSum_51 : decode cX4_registerSum 51 = .ok (.iadd, 1) := by decide +kernel
theorem dX4_registerSum_52 : decode cX4_registerSum 52 = .ok (.iaload, 1) := by decide +kernel
theorem dX4_registerSum_53 : decode cX4_registerSum 53 = .ok (.istore_n 2, 1) := by decide +kernel
theorem dX4_registerSum_54 : decode cX4_registerSum 54 = .ok (.iload_n 1, 1) := by decide +kernel
theorem dX4_registerSum_55 : decode cX4_registerSum 55 = .ok (.iconst 4, 1) := by decide +kernel
theorem dX4_registerSum_56 : decode cX4_registerSum 56 = .ok (.if_icmp .lt 5, 3) := by decide +kernel
theorem dX4_registerSum_61 : decode cX4_registerSum 61 = .ok (.iload_n 2, 1) := by decide +kernel
theorem dX4_registerSum_62 : decode cX4_registerSum 62 = .ok (.aload_n 0, 1) := by decide +kernel
theorem dX4_registerSum_63 : decode cX4_registerSum 63 = .ok (.getfield 13, 3) := by decide +kernel
theorem dX4_registerSum_66 : decode cX4_registerSum 66 = .ok (.iload_n 1, 1) := by decide +kernel
theorem dX4_registerSum_67 : decode cX4_registerSum 67 = .ok (.iconst 2, 1) := by decide +kernel
theorem dX4_registerSum_68 : decode cX4_registerSum 68 = .ok (.if_icmp .ge 7, 3) := by decide +kernel
theorem dX4_registerSum_75 : decode cX4_registerSum 75 = .ok (.iconst 5, 1) := by decide +kernel
theorem dX4_registerSum_76 : decode cX4_registerSum 76 = .ok (.iaload, 1) := by decide +kernel
theorem dX4_registerSum_77 : decode cX4_registerSum 77 = .ok (.iadd, 1) := by decide +kernel
theorem dX4_registerSum_78 : decode cX4_registerSum 78 = .ok (.ireturn, 1) := by decide +kernel
theorem dX4_registerSum_71 : decode cX4_registerSum 71 = .ok (.iconst 3, 1) := by decide +kernel
theorem dX4_registerSum_72 : decode cX4_registerSum 72 = .ok (.goto 4, 3) := by decide +kernel
theorem dX4_registerSum_59 : decode cX4_registerSum 59 = .ok (.iload_n 2, 1) := by decide +kernel
theorem dX4_registerSum_60 : decode cX4_registerSum 60 = .ok (.ireturn, 1) := by decide +kernel
theorem dX4_fetchM_0 : decode cX4_fetchM 0 = .ok (.aload_n 0, 1) := by decide +kernel
theorem dX4_fetchM_1 : decode cX4_fetchM 1 = .ok (.invokevirtual 88, 3) := by decide +kernel
theorem dX4_fetchM_4 : decode cX4_fetchM 4 = .ok (.istore_n 1, 1) := by decide +kernel
theorem dX4_fetchM_5 : decode cX4_fetchM 5 = .ok (.iload_n 1, 1) := by decide +kernel
theorem dX4_fetchM_6 : decode cX4_fetchM 6 = .ok (.bipush 6, 2) := by decide +kernel
theorem dX4_fetchM_8 : decode cX4_fetchM 8 = .ok (.ishr, 1) := by decide +kernel
theorem dX4_fetchM_9 : decode cX4_fetchM 9 = .ok (.istore_n 2, 1) := by decide +kernel
theorem dX4_fetchM_10 : decode cX4_fetchM 10 = .ok (.iload_n 1, 1) := by decide +kernel
theorem dX4_fetchM_11 : decode cX4_fetchM 11 = .ok (.bipush 7, 2) := by decide +kernel
theorem dX4_fetchM_13 : decode cX4_fetchM 13 = .ok (.iand, 1) := by decide +kernel
theorem dX4_fetchM_14 : decode cX4_fetchM 14 = .ok (.istore_n 3, 1) := by decide +kernel
theorem dX4_fetchM_15 : decode cX4_fetchM 15 = .ok (.aload_n 0, 1) := by decide +kernel
theorem dX4_fetchM_16 : decode cX4_fetchM 16 = .ok (.iload_n 1, 1) := by decide +kernel
theorem dX4_fetchM_17 : decode cX4_fetchM 17 = .ok (.iconst 3, 1) := by decide +kernel
theorem dX4_fetchM_18 : decode cX4_fetchM 18 = .ok (.ishr, 1) := by decide +kernel
theorem dX4_fetchM_19 : decode cX4_fetchM 19 = .ok (.bipush 7, 2) := by decide +kernel
theorem dX4_fetchM_21 : decode cX4_fetchM 21 = .ok (.iand, 1) := by decide +kernel
theorem dX4_fetchM_22 : decode cX4_fetchM 22 = .ok (.putfield 45, 3) := by decide +kernel
theorem dX4_fetchM_25 : decode cX4_fetchM 25 = .ok (.aload_n 0, 1) := by decide +kernel
theorem dX4_fetchM_26 : decode cX4_fetchM 26 = .ok (.iload_n 2, 1) := by decide +kernel
theorem dX4_fetchM_27 : decode cX4_fetchM 27 = .ok (.iconst 3, 1) := by decide +kernel
theorem dX4_fetchM_28 : decode cX4_fetchM 28 = .ok (.if_icmp .ne 7, 3) := by decide +kernel
theorem dX4_fetchM_35 : decode cX4_fetchM 35 = .ok (.iconst (-1), 1) := by decide +kernel
theorem dX4_fetchM_36 : decode cX4_fetchM 36 = .ok (.putfield 48, 3) := by decide +kernel
theorem dX4_fetchM_39 : decode cX4_fetchM 39 = .ok (.iload_n 2, 1) := by decide +kernel
theorem dX4_fetchM_40 : decode cX4_fetchM 40 = .ok (.iconst 3, 1) := by decide +kernel
theorem dX4_fetchM_41 : decode cX4_fetchM 41 = .ok (.if_icmp .ne 4, 3) := by decide +kernel
theorem dX4_fetchM_45 : decode cX4_fetchM 45 = .ok (.iload_n 2, 1) := by decide +kernel
theorem dX4_fetchM_46 : decode cX4_fetchM 46 = .ok (.ifCond .ne 13, 3) := by decide +kernel
theorem dX4_fetchM_59 : decode cX4_fetchM 59 = .ok (.iconst 0, 1) := by decide +kernel
theorem dX4_fetchM_60 : decode cX4_fetchM 60 = .ok (.istore 4, 2) := by decide +kernel
theorem dX4_fetchM_62 : decode cX4_fetchM 62 = .ok (.iload 4, 2) := by decide +kernel
theorem dX4_fetchM_64 : decode cX4_fetchM 64 = .ok (.ifCond .eq 7, 3) := by decide +kernel
theorem dX4_fetchM_71 : decode cX4_fetchM 71 = .ok (.aload_n 0, 1) := by decide +kernel
theorem dX4_fetchM_72 : decode cX4_fetchM 72 = .ok (.iload_n 3, 1) := by decide +kernel
theorem dX4_fetchM_73 : decode cX4_fetchM 73 = .ok (.invokevirtual 167, 3) := by decide +kernel
theorem dX4_fetchM_76 : decode cX4_fetchM 76 = .ok (.istore 5, 2) := by decide +kernel
theorem dX4_fetchM_78 : decode cX4_fetchM 78 = .ok (.iload 4, 2) := by decide +kernel
theorem dX4_fetchM_80 : decode cX4_fetchM 80 = .ok (.ifCond .ne 8, 3) := by decide +kernel
theorem dX4_fetchM_83 : decode cX4_fetchM 83 = .ok (.iload_n 2, 1) := by decide +kernel
theorem dX4_fetchM_84 : decode cX4_fetchM 84 = .ok (.iconst 2, 1) := by decide +kernel
theorem dX4_fetchM_85 : decode cX4_fetchM 85 = .ok (.if_icmp .ne 15, 3) := by decide +kernel
theorem dX4_fetchM_100 : decode cX4_fetchM 100 = .ok (.iload_n 2, 1) := by decide +kernel
theorem dX4_fetchM_101 : decode cX4_fetchM 101 = .ok (.iconst 1, 1) := by decide +kernel
theorem dX4_fetchM_102 : decode cX4_fetchM 102 = .ok (.if_icmp .ne 12, 3) := by decide +kernel
theorem dX4_fetchM_105 : decode cX4_fetchM 105 = .ok (.iload 5, 2) := by decide +kernel
theorem dX4_fetchM_107 : decode cX4_fetchM 107 = .ok (.aload_n 0, 1) := by decide +kernel
theorem dX4_fetchM_108 : decode cX4_fetchM 108 = .ok (.invokevirtual 142, 3) := by decide +kernel
theorem dX4_fetchM_111 : decode cX4_fetchM 111 = .ok (.iadd, 1) := by decide +kernel
theorem dX4_fetchM_112 : decode cX4_fetchM 112 = .ok (.istore 5, 2) := by decide +kernel
theorem dX4_fetchM_114 : decode cX4_fetchM 114 = .ok (.iload_n 3, 1) := by decide +kernel
theorem dX4_fetchM_115 : decode cX4_fetchM 115 = .ok (.iconst 2, 1) := by decide +kernel
theorem dX4_fetchM_116 : decode cX4_fetchM 116 = .ok (.if_icmp .eq 19, 3) := by decide +kernel
theorem dX4_fetchM_135 : decode cX4_fetchM 135 = .ok (.iconst 1, 1) := by decide +kernel
theorem dX4_fetchM_136 : decode cX4_fetchM 136 = .ok (.goto 4, 3) := by decide +kernel
theorem dX4_fetchM_140 : decode cX4_fetchM 140 = .ok (.istore 6, 2) := by decide +kernel
theorem dX4_fetchM_142 : decode cX4_fetchM 142 = .ok (.aload_n 0, 1) := by decide +kernel
theorem dX4_fetchM_143 : decode cX4_fetchM 143 = .ok (.bipush 16, 2) := by decide +kernel
theorem dX4_fetchM_145 : decode cX4_fetchM 145 = .ok (.aload_n 0, 1) := by decide +kernel
theorem dX4_fetchM_146 : decode cX4_fetchM 146 = .ok (.getfield 16, 3) := by decide +kernel
theorem dX4_fetchM_149 : decode cX4_fetchM 149 = .ok (.iload 6, 2) := by decide +kernel
theorem dX4_fetchM_151 : decode cX4_fetchM 151 = .ok (.ifCond .eq 7, 3) := by decide +kernel
theorem dX4_fetchM_154 : decode cX4_fetchM 154 = .ok (.iconst 2, 1) := by decide +kernel
theorem dX4_fetchM_155 : decode cX4_fetchM 155 = .ok (.goto 4, 3) := by decide +kernel
theorem dX4_fetchM_159 : decode cX4_fetchM 159 = .ok (.iaload, 1) := by decide +kernel
theorem dX4_fetchM_160 : decode cX4_fetchM 160 = .ok (.imul, 1) := by decide +kernel
theorem dX4_fetchM_161 : decode cX4_fetchM 161 = .ok (.iload 5, 2) := by decide +kernel
theorem dX4_fetchM_163 : decode cX4_fetchM 163 = .ok (.ldc 95, 2) := by decide +kernel
theorem dX4_fetchM_165 : decode cX4_fetchM 165 = .ok (.iand, 1) := by decide +kernel
theorem dX4_fetchM_166 : decode cX4_fetchM 166 = .ok (.iadd, 1) := by decide +kernel
theorem dX4_fetchM_167 : decode cX4_fetchM 167 = .ok (.putfield 51, 3) := by decide +kernel
theorem dX4_fetchM_170 : decode cX4_fetchM 170 = .ok (.return_, 1) := by decide +kernel
theorem dX4_fetchM_119 : decode cX4_fetchM 119 = .ok (.iload_n 3, 1) := by decide +kernel
theorem dX4_fetchM_120 : decode cX4_fetchM 120 = .ok (.iconst 3, 1) := by decide +kernel
theorem dX4_fetchM_121 : decode cX4_fetchM 121 = .ok (.if_icmp .eq 14, 3) := by decide +kernel
theorem dX4_fetchM_124 : decode cX4_fetchM 124 = .ok (.iload_n 3, 1) := by decide +kernel
theorem dX4_fetchM_125 : decode cX4_fetchM 125 = .ok (.bipush 6, 2) := by decide +kernel
theorem dX4_fetchM_127 : decode cX4_fetchM 127 = .ok (.if_icmp .ne 12, 3) := by decide +kernel
theorem dX4_fetchM_139 : decode cX4_fetchM 139 = .ok (.iconst 0, 1) := by decide +kernel
theorem dX4_fetchM_158 : decode cX4_fetchM 158 = .ok (.iconst 3, 1) := by decide +kernel
theorem dX4_fetchM_130 : decode cX4_fetchM 130 = .ok (.iload 4, 2) := by decide +kernel
theorem dX4_fetchM_132 : decode cX4_fetchM 132 = .ok (.ifCond .ne 7, 3) := by decide +kernel
theorem dX4_fetchM_88 : decode cX4_fetchM 88 = .ok (.iload 5, 2) := by decide +kernel
theorem dX4_fetchM_90 : decode cX4_fetchM 90 = .ok (.aload_n 0, 1) := by decide +kernel
theorem dX4_fetchM_91 : decode cX4_fetchM 91 = .ok (.invokevirtual 106, 3) := by decide +kernel
theorem dX4_fetchM_94 : decode cX4_fetchM 94 = .ok (.iadd, 1) := by decide +kernel
theorem dX4_fetchM_95 : decode cX4_fetchM 95 = .ok (.istore 5, 2) := by decide +kernel
theorem dX4_fetchM_97 : decode cX4_fetchM 97 = .ok (.goto 17, 3) := by decide +kernel
theorem dX4_fetchM_49 : decode cX4_fetchM 49 = .ok (.iload_n 3, 1) := by decide +kernel
theorem dX4_fetchM_50 : decode cX4_fetchM 50 = .ok (.bipush 6, 2) := by decide +kernel
theorem dX4_fetchM_52 : decode cX4_fetchM 52 = .ok (.if_icmp .ne 7, 3) := by decide +kernel
theorem dX4_fetchM_55 : decode cX4_fetchM 55 = .ok (.iconst 1, 1) := by decide +kernel
theorem dX4_fetchM_56 : decode cX4_fetchM 56 = .ok (.goto 4, 3) := by decide +kernel
theorem dX4_fetchM_67 : decode cX4_fetchM 67 = .ok (.iconst 0, 1) := by decide +kernel
theorem dX4_fetchM_68 : decode cX4_fetchM 68 = .ok (.goto 8, 3) := by decide +kernel
theorem dX4_fetchM_31 : decode cX4_fetchM 31 = .ok (.iload_n 3, 1) := by decide +kernel
theorem dX4_fetchM_32 : decode cX4_fetchM 32 = .ok (.goto 4, 3) := by decide +kernel
theorem dX4_fetchM_44 : decode cX4_fetchM 44 = .ok (.return_, 1) := by decide +kernel
set_option maxHeartbeats 4000000 in
set_option maxRecDepth 100000 in
theorem s_X4_registerSum (l : Launch) (D : va_G) (dA : Nat → ClassId) (t0 : Nat) (a0 : Int32) (c0 : Nat) (c1 : Nat) (c2 : Nat) (i0 : Int32) (i1 : Int32) (i2 : Int32) (i3 : Int32) (i4 : Int32) (i5 : Int32) (i6 : Int32) (c3 : Nat) (i7 : Int32) (i8 : Int32) (i9 : Int32) (m0 : Nat → Int32) (m1 : Nat → Int32) (m2 : Nat → Int32) (m3 : Nat → Int32) (p0 : 0 ≤ a0.toInt ∧ a0.toInt ≤ 7) (p1 : 0 ≤ i4.toInt ∧ i4.toInt ≤ 1) (p2 : 0 ≤ i6.toInt ∧ i6.toInt ≤ 1000000) (p3 : 0 ≤ i7.toInt ∧ i7.toInt ≤ 7) (p4 : -1 ≤ i8.toInt ∧ i8.toInt ≤ 7) (p5 : ∀ j : Nat, 0 ≤ (m0 j).toInt ∧ (m0 j).toInt ≤ 255) (sz : Nat) : Met l yX4_registerSum (gws yX4_registerSum cX4_registerSum 3 (some .int)) (gR 1 0 0) (gPre D dA [.ref t0, .int a0] [(t0, .inr (4, [.ref c0, .ref c1, .ref c2, .int i0, .int i1, .int i2, .int i3, .int i4, .int i5, .int i6, .ref c3, .int i7, .int i8, .int i9])), (c0, .inl (dA 0, 4096, .inl m0)), (c1, .inl (dA 0, 8, .inl m1)), (c2, .inl (dA 0, 4, .inl m2)), (c3, .inl (dA 0, 30, .inl m3))] sz) (va_Qi (fun (r : Int32) (u : Unit) => True) (gAt D dA (va_A [(t0, .inr (4, [.ref c0, .ref c1, .ref c2, .int i0, .int i1, .int i2, .int i3, .int i4, .int i5, .int i6, .ref c3, .int i7, .int i8, .int i9])), (c0, .inl (dA 0, 4096, .inl m0)), (c1, .inl (dA 0, 8, .inl m1)), (c2, .inl (dA 0, 4, .inl m2)), (c3, .inl (dA 0, 30, .inl m3))] sz) (fun u : Unit => [(t0, .inr (4, [.ref c0, .ref c1, .ref c2, .int i0, .int i1, .int i2, .int i3, .int i4, .int i5, .int i6, .ref c3, .int i7, .int i8, .int i9])), (c0, .inl (dA 0, 4096, .inl m0)), (c1, .inl (dA 0, 8, .inl m1)), (c2, .inl (dA 0, 4, .inl m2)), (c3, .inl (dA 0, 30, .inl m3))])) (va_A [(t0, .inr (4, [.ref c0, .ref c1, .ref c2, .int i0, .int i1, .int i2, .int i3, .int i4, .int i5, .int i6, .ref c3, .int i7, .int i8, .int i9])), (c0, .inl (dA 0, 4096, .inl m0)), (c1, .inl (dA 0, 8, .inl m1)), (c2, .inl (dA 0, 4, .inl m2)), (c3, .inl (dA 0, 30, .inl m3))] sz)) 0 0 (va_A [(t0, .inr (4, [.ref c0, .ref c1, .ref c2, .int i0, .int i1, .int i2, .int i3, .int i4, .int i5, .int i6, .ref c3, .int i7, .int i8, .int i9])), (c0, .inl (dA 0, 4096, .inl m0)), (c1, .inl (dA 0, 8, .inl m1)), (c2, .inl (dA 0, 4, .inl m2)), (c3, .inl (dA 0, 30, .inl m3))] sz) := by
  refine Met.ofW (cc := cX4_registerSum) (maxL := 3) (ret := (some .int)) (by decide) rfl ?_
  intro p e s m args below meth c s₁ B hml hv
  obtain ⟨rfl, hsz, hP, hK, hD0⟩ := hv
  have hx := B.exec
  have hb := B.bytes
  have hr := B.returns
  have hts := atoms_spec (ws := gws yX4_registerSum cX4_registerSum 3 (some .int)) B.pre
  have hg : ∀ w ∈ gw, w.before _ s = true := fun w h => hts w (List.mem_cons_of_mem _ h)
  have hown : s.vm.findClass RX4 = some m.cls := findClass_of_methodNamed B.named
  have hlocks := B.notSynchronized
  subst hsz
  have hD := hD0.self (sz := s.heap.size)
  generalize hAe : va_A [(t0, .inr (4, [.ref c0, .ref c1, .ref c2, .int i0, .int i1, .int i2, .int i3, .int i4, .int i5, .int i6, .ref c3, .int i7, .int i8, .int i9])), (c0, .inl (dA 0, 4096, .inl m0)), (c1, .inl (dA 0, 8, .inl m1)), (c2, .inl (dA 0, 4, .inl m2)), (c3, .inl (dA 0, 30, .inl m3))] s.heap.size = A at hD ⊢
  have hA : ∀ q : Nat, s.heap.size ≤ q → A q := fun q h => by rw [← hAe]; exact Or.inr h
  have hS : va_S A s.heap s.heap [] := va_S.rf
  have hP : va_P D vwC [(t0, .inr (4, [.ref c0, .ref c1, .ref c2, .int i0, .int i1, .int i2, .int i3, .int i4, .int i5, .int i6, .ref c3, .int i7, .int i8, .int i9])), (c0, .inl (dA 0, 4096, .inl m0)), (c1, .inl (dA 0, 8, .inl m1)), (c2, .inl (dA 0, 4, .inl m2)), (c3, .inl (dA 0, 30, .inl m3))] s.heap := hP
  have hl := lv_entry ([.ref t0, .int a0]) (n := 3) (Nat.le_of_ble_eq_true rfl)
  rw [lg_entry_eq]
  generalize (lg_sl ([.ref t0, .int a0]) ++ List.replicate (3 - (lg_sl ([.ref t0, .int a0])).length) Slot.unset).toArray = ls at hl ⊢
  have hl : lv_has ls 3 [(0, .ref t0), (1, .int a0)] := hl
  refine lv_iload_n hx hb dX4_registerSum_0 rfl (lv_at hl 1 rfl) ?_
  by_cases s1 : a0 = 6
  · have g2 : a0.toInt = 6 := by rw [s1]; decide
    refine lv_lookup (off := 27) (tgt := 28) hx hb dX4_registerSum_1 (by decide) (by rw [s1] <;> rfl) (by decide) ?_
    refine lv_aload_n hx hb dX4_registerSum_28 rfl (lv_at hl 0 rfl) ?_
    refine g_get hx hb hg hown hK hP 0 rfl rfl inX4 1 (by decide) q554 rfl dX4_registerSum_29 ?_
    refine lv_iconst (v := 5) hx hb dX4_registerSum_32 (by decide) ?_
    refine va_iald hx hb hK hP 2 0 rfl rfl (by unfold vp_in; decide) dX4_registerSum_33 ?_
    refine lv_topi (fun x3 e4 => ?_)
    exact g_iret hx hb hr rfl hlocks hK () hP hD hS trivial (Nat.le_of_ble_eq_true rfl) (Nat.le_of_ble_eq_true rfl) dX4_registerSum_34
  by_cases s5 : a0 = 7
  · have g6 : a0.toInt = 7 := by rw [s5]; decide
    refine lv_lookup (off := 34) (tgt := 35) hx hb dX4_registerSum_1 (by decide) (by rw [s5] <;> rfl) (by decide) ?_
    refine lv_aload_n hx hb dX4_registerSum_35 rfl (lv_at hl 0 rfl) ?_
    refine g_get hx hb hg hown hK hP 0 rfl rfl inX4 1 (by decide) q554 rfl dX4_registerSum_36 ?_
    refine lv_iconst (v := 3) hx hb dX4_registerSum_39 (by decide) ?_
    refine va_iald hx hb hK hP 2 0 rfl rfl (by unfold vp_in; decide) dX4_registerSum_40 ?_
    refine lv_topi (fun x7 e8 => ?_)
    exact g_iret hx hb hr rfl hlocks hK () hP hD hS trivial (Nat.le_of_ble_eq_true rfl) (Nat.le_of_ble_eq_true rfl) dX4_registerSum_41
  have g9 : a0.toInt ≠ 6 := lv_neT s1 (by decide)
  have g10 : a0.toInt ≠ 7 := lv_neT s5 (by decide)
  refine lv_lookup (off := 41) (tgt := 42) hx hb dX4_registerSum_1 (by decide) (by exact (lv_osw s1 (by decide)).trans ((lv_osw s5 (by decide)).trans (rfl))) (by decide) ?_
  refine lv_aload_n hx hb dX4_registerSum_42 rfl (lv_at hl 0 rfl) ?_
  refine g_get hx hb hg hown hK hP 0 rfl rfl inX4 1 (by decide) q554 rfl dX4_registerSum_43 ?_
  refine lv_bipush (v := 6) hx hb dX4_registerSum_46 (by decide) ?_
  refine lv_iload_n hx hb dX4_registerSum_48 rfl (lv_at hl 1 rfl) ?_
  refine lv_iconst (v := 1) hx hb dX4_registerSum_49 (by decide) ?_
  refine lv_iand hx hb dX4_registerSum_50 ?_
  refine lv_topi (fun x11 e12 => ?_)
  have g13 : 0 ≤ x11.toInt ∧ x11.toInt ≤ 1 := g_msk e12 1 (by decide) (by decide) (by decide)
  refine lv_iadd hx hb dX4_registerSum_51 ?_
  refine lv_topi (fun x14 e15 => ?_)
  have g16 : x14.toInt = 6 + x11.toInt := g_add e15 (by decide) rfl (by omega) (by omega)
  refine va_iald hx hb hK hP 2 0 rfl rfl (by rw [vp_in_iff]; omega) dX4_registerSum_52 ?_
  refine lv_topi (fun x17 e18 => ?_)
  refine lv_istore_n (lv' := [(2, .int x17), (0, .ref t0), (1, .int a0)]) hx hb dX4_registerSum_53 rfl hl (by decide) rfl (fun ls hl => ?_)
  refine lv_iload_n hx hb dX4_registerSum_54 rfl (lv_at hl 2 rfl) ?_
  refine lv_iconst (v := 4) hx hb dX4_registerSum_55 (by decide) ?_
  refine lv_icmp_lt (tgt := 61) hx hb dX4_registerSum_56 (by decide) (fun k19 => ?_) (fun k19 => ?_)
  · have g20 : a0.toInt < 4 := gi_lt (rfl : a0.toInt = a0.toInt) (by decide : (4 : Int32).toInt = 4) k19
    refine lv_iload_n hx hb dX4_registerSum_61 rfl (lv_at hl 0 rfl) ?_
    refine lv_aload_n hx hb dX4_registerSum_62 rfl (lv_at hl 1 rfl) ?_
    refine g_get hx hb hg hown hK hP 0 rfl rfl inX4 1 (by decide) q554 rfl dX4_registerSum_63 ?_
    refine lv_iload_n hx hb dX4_registerSum_66 rfl (lv_at hl 2 rfl) ?_
    refine lv_iconst (v := 2) hx hb dX4_registerSum_67 (by decide) ?_
    refine lv_icmp_ge (tgt := 75) hx hb dX4_registerSum_68 (by decide) (fun k21 => ?_) (fun k21 => ?_)
    · have g22 : 2 ≤ a0.toInt := gi_le (by decide : (2 : Int32).toInt = 2) (rfl : a0.toInt = a0.toInt) k21
      refine lv_iconst (v := 5) hx hb dX4_registerSum_75 (by decide) ?_
      refine va_iald hx hb hK hP 2 0 rfl rfl (by unfold vp_in; decide) dX4_registerSum_76 ?_
      refine lv_topi (fun x23 e24 => ?_)
      refine lv_iadd hx hb dX4_registerSum_77 ?_
      have g25 := g_i32 x17
      have g26 := g_i32 x23
      refine lv_topi (fun x27 e28 => ?_)
      exact g_iret hx hb hr rfl hlocks hK () hP hD hS trivial (Nat.le_of_ble_eq_true rfl) (Nat.le_of_ble_eq_true rfl) dX4_registerSum_78
    · have g29 : 2 > a0.toInt := gi_nle (by decide : (2 : Int32).toInt = 2) (rfl : a0.toInt = a0.toInt) k21
      refine lv_iconst (v := 3) hx hb dX4_registerSum_71 (by decide) ?_
      refine lv_goto (tgt := 76) hx hb dX4_registerSum_72 (by decide) ?_
      refine va_iald hx hb hK hP 2 0 rfl rfl (by unfold vp_in; decide) dX4_registerSum_76 ?_
      refine lv_topi (fun x30 e31 => ?_)
      refine lv_iadd hx hb dX4_registerSum_77 ?_
      have g32 := g_i32 x17
      have g33 := g_i32 x30
      refine lv_topi (fun x34 e35 => ?_)
      exact g_iret hx hb hr rfl hlocks hK () hP hD hS trivial (Nat.le_of_ble_eq_true rfl) (Nat.le_of_ble_eq_true rfl) dX4_registerSum_78
  · have g36 : a0.toInt ≥ 4 := gi_nlt (rfl : a0.toInt = a0.toInt) (by decide : (4 : Int32).toInt = 4) k19
    refine lv_iload_n hx hb dX4_registerSum_59 rfl (lv_at hl 0 rfl) ?_
    exact g_iret hx hb hr rfl hlocks hK () hP hD hS trivial (Nat.le_of_ble_eq_true rfl) (Nat.le_of_ble_eq_true rfl) dX4_registerSum_60
set_option maxHeartbeats 4000000 in
set_option maxRecDepth 100000 in
theorem s_X4_fetchM (l : Launch) (D : va_G) (dA : Nat → ClassId) (t0 : Nat) (c0 : Nat) (c1 : Nat) (c2 : Nat) (i0 : Int32) (i1 : Int32) (i2 : Int32) (i3 : Int32) (i4 : Int32) (i5 : Int32) (i6 : Int32) (c3 : Nat) (i7 : Int32) (i8 : Int32) (i9 : Int32) (m0 : Nat → Int32) (m1 : Nat → Int32) (m2 : Nat → Int32) (m3 : Nat → Int32) (p0 : 0 ≤ i4.toInt ∧ i4.toInt ≤ 1) (p1 : 0 ≤ i6.toInt ∧ i6.toInt ≤ 1000000) (p2 : 0 ≤ i7.toInt ∧ i7.toInt ≤ 7) (p3 : -1 ≤ i8.toInt ∧ i8.toInt ≤ 7) (p4 : ∀ j : Nat, 0 ≤ (m0 j).toInt ∧ (m0 j).toInt ≤ 255) (sz : Nat) : Met l yX4_fetchM (gws yX4_fetchM cX4_fetchM 7 none) (gR 3 0 0) (gPre D dA [.ref t0] [(t0, .inr (4, [.ref c0, .ref c1, .ref c2, .int i0, .int i1, .int i2, .int i3, .int i4, .int i5, .int i6, .ref c3, .int i7, .int i8, .int i9])), (c0, .inl (dA 0, 4096, .inl m0)), (c1, .inl (dA 0, 8, .inl m1)), (c2, .inl (dA 0, 4, .inl m2)), (c3, .inl (dA 0, 30, .inl m3))] sz) (va_Qv (fun u : Int32 × Int32 × Int32 × Int32 => (0 ≤ u.2.1.toInt ∧ u.2.1.toInt ≤ 7) ∧ (-1 ≤ u.2.2.1.toInt ∧ u.2.2.1.toInt ≤ 7)) (gAt D dA (va_A [(t0, .inr (4, [.ref c0, .ref c1, .ref c2, .int i0, .int i1, .int i2, .int i3, .int i4, .int i5, .int i6, .ref c3, .int i7, .int i8, .int i9])), (c0, .inl (dA 0, 4096, .inl m0)), (c1, .inl (dA 0, 8, .inl m1)), (c2, .inl (dA 0, 4, .inl m2)), (c3, .inl (dA 0, 30, .inl m3))] sz) (fun u : Int32 × Int32 × Int32 × Int32 => [(t0, .inr (4, [.ref c0, .ref c1, .ref c2, .int u.1, .int i1, .int i2, .int i3, .int i4, .int i5, .int i6, .ref c3, .int u.2.1, .int u.2.2.1, .int u.2.2.2])), (c0, .inl (dA 0, 4096, .inl m0)), (c1, .inl (dA 0, 8, .inl m1)), (c2, .inl (dA 0, 4, .inl m2)), (c3, .inl (dA 0, 30, .inl m3))])) (va_A [(t0, .inr (4, [.ref c0, .ref c1, .ref c2, .int i0, .int i1, .int i2, .int i3, .int i4, .int i5, .int i6, .ref c3, .int i7, .int i8, .int i9])), (c0, .inl (dA 0, 4096, .inl m0)), (c1, .inl (dA 0, 8, .inl m1)), (c2, .inl (dA 0, 4, .inl m2)), (c3, .inl (dA 0, 30, .inl m3))] sz)) 0 0 (va_A [(t0, .inr (4, [.ref c0, .ref c1, .ref c2, .int i0, .int i1, .int i2, .int i3, .int i4, .int i5, .int i6, .ref c3, .int i7, .int i8, .int i9])), (c0, .inl (dA 0, 4096, .inl m0)), (c1, .inl (dA 0, 8, .inl m1)), (c2, .inl (dA 0, 4, .inl m2)), (c3, .inl (dA 0, 30, .inl m3))] sz) := by
  refine Met.ofW (cc := cX4_fetchM) (maxL := 7) (ret := none) (by decide) rfl ?_
  intro p e s m args below meth c s₁ B hml hv
  obtain ⟨rfl, hsz, hP, hK, hD0⟩ := hv
  have hx := B.exec
  have hb := B.bytes
  have hr := B.returns
  have hts := atoms_spec (ws := gws yX4_fetchM cX4_fetchM 7 none) B.pre
  have hg : ∀ w ∈ gw, w.before _ s = true := fun w h => hts w (List.mem_cons_of_mem _ h)
  have hown : s.vm.findClass RX4 = some m.cls := findClass_of_methodNamed B.named
  have hlocks := B.notSynchronized
  subst hsz
  have hD := hD0.self (sz := s.heap.size)
  generalize hAe : va_A [(t0, .inr (4, [.ref c0, .ref c1, .ref c2, .int i0, .int i1, .int i2, .int i3, .int i4, .int i5, .int i6, .ref c3, .int i7, .int i8, .int i9])), (c0, .inl (dA 0, 4096, .inl m0)), (c1, .inl (dA 0, 8, .inl m1)), (c2, .inl (dA 0, 4, .inl m2)), (c3, .inl (dA 0, 30, .inl m3))] s.heap.size = A at hD ⊢
  have hA : ∀ q : Nat, s.heap.size ≤ q → A q := fun q h => by rw [← hAe]; exact Or.inr h
  have hS : va_S A s.heap s.heap [] := va_S.rf
  have hP : va_P D vwC [(t0, .inr (4, [.ref c0, .ref c1, .ref c2, .int i0, .int i1, .int i2, .int i3, .int i4, .int i5, .int i6, .ref c3, .int i7, .int i8, .int i9])), (c0, .inl (dA 0, 4096, .inl m0)), (c1, .inl (dA 0, 8, .inl m1)), (c2, .inl (dA 0, 4, .inl m2)), (c3, .inl (dA 0, 30, .inl m3))] s.heap := hP
  have hl := lv_entry ([.ref t0]) (n := 7) (Nat.le_of_ble_eq_true rfl)
  rw [lg_entry_eq]
  generalize (lg_sl ([.ref t0]) ++ List.replicate (7 - (lg_sl ([.ref t0])).length) Slot.unset).toArray = ls at hl ⊢
  have hl : lv_has ls 7 [(0, .ref t0)] := hl
  refine lv_aload_n hx hb dX4_fetchM_0 rfl (lv_at hl 0 rfl) ?_
  refine g_Vi (n := 0) (As := []) (rest := []) (wr := []) hx hb hml hg hown hK hP hD hS hA (s_X4_fetch l D dA t0 c0 c1 c2 i0 i1 i2 i3 i4 i5 i6 c3 i7 i8 i9 m0 m1 m2 m3 (by omega) (by omega) (by omega) (by omega) p4 _) [0, 1, 2, 3, 4] [] rfl (by decide) rfl (by decide) (by decide) 0 rfl rfl q1399 q159 q1396 q1398 q52 (by decide +kernel) ⟨(Nat.le_of_ble_eq_true rfl), (Nat.le_of_ble_eq_true rfl)⟩ rfl hl.1 rfl (Nat.le_of_ble_eq_true rfl) dX4_fetchM_1 ⟨(Nat.le_of_ble_eq_true rfl), (Nat.le_of_ble_eq_true rfl)⟩ (fun x2 u1 H locs w3 hP hD hS => ?_)
  refine W.widen (k := 0) (n := 0) (Nat.le_of_ble_eq_true rfl) (Nat.le_of_ble_eq_true rfl) ?_
  obtain ⟨x4, rfl⟩ : ∃ z, z = u1 := ⟨_, rfl⟩
  have hP : va_P D vwC [(t0, .inr (4, [.ref c0, .ref c1, .ref c2, .int x4, .int i1, .int i2, .int i3, .int i4, .int i5, .int i6, .ref c3, .int i7, .int i8, .int i9])), (c0, .inl (dA 0, 4096, .inl m0)), (c1, .inl (dA 0, 8, .inl m1)), (c2, .inl (dA 0, 4, .inl m2)), (c3, .inl (dA 0, 30, .inl m3))] H := hP
  have hD : va_D A [(t0, .inr (4, [.ref c0, .ref c1, .ref c2, .int x4, .int i1, .int i2, .int i3, .int i4, .int i5, .int i6, .ref c3, .int i7, .int i8, .int i9])), (c0, .inl (dA 0, 4096, .inl m0)), (c1, .inl (dA 0, 8, .inl m1)), (c2, .inl (dA 0, 4, .inl m2)), (c3, .inl (dA 0, 30, .inl m3))] := hD
  have g5 := w3
  have g5 : 0 ≤ x2.toInt ∧ x2.toInt ≤ 255 := g5
  refine lv_istore_n (lv' := [(1, .int x2), (0, .ref t0)]) hx hb dX4_fetchM_4 rfl hl (by decide) rfl (fun ls hl => ?_)
  refine lv_iload_n hx hb dX4_fetchM_5 rfl (lv_at hl 0 rfl) ?_
  refine lv_bipush (v := 6) hx hb dX4_fetchM_6 (by decide) ?_
  refine lv_ishr hx hb dX4_fetchM_8 ?_
  refine lv_topi (fun x6 e7 => ?_)
  have g8 : x6.toInt * 64 ≤ x2.toInt ∧ x2.toInt < x6.toInt * 64 + 64 := g_shr e7 6 (by decide) (by decide) (by decide)
  refine lv_istore_n (lv' := [(2, .int x6), (1, .int x2), (0, .ref t0)]) hx hb dX4_fetchM_9 rfl hl (by decide) rfl (fun ls hl => ?_)
  refine lv_iload_n hx hb dX4_fetchM_10 rfl (lv_at hl 1 rfl) ?_
  refine lv_bipush (v := 7) hx hb dX4_fetchM_11 (by decide) ?_
  refine lv_iand hx hb dX4_fetchM_13 ?_
  refine lv_topi (fun x9 e10 => ?_)
  have g11 : 0 ≤ x9.toInt ∧ x9.toInt ≤ 7 := g_msk e10 3 (by decide) (by decide) (by decide)
  refine lv_istore_n (lv' := [(3, .int x9), (2, .int x6), (1, .int x2), (0, .ref t0)]) hx hb dX4_fetchM_14 rfl hl (by decide) rfl (fun ls hl => ?_)
  refine lv_aload_n hx hb dX4_fetchM_15 rfl (lv_at hl 3 rfl) ?_
  refine lv_iload_n hx hb dX4_fetchM_16 rfl (lv_at hl 2 rfl) ?_
  refine lv_iconst (v := 3) hx hb dX4_fetchM_17 (by decide) ?_
  refine lv_ishr hx hb dX4_fetchM_18 ?_
  refine lv_topi (fun x12 e13 => ?_)
  have g14 : x12.toInt * 8 ≤ x2.toInt ∧ x2.toInt < x12.toInt * 8 + 8 := g_shr e13 3 (by decide) (by decide) (by decide)
  refine lv_bipush (v := 7) hx hb dX4_fetchM_19 (by decide) ?_
  refine lv_iand hx hb dX4_fetchM_21 ?_
  refine lv_topi (fun x15 e16 => ?_)
  have g17 : 0 ≤ x15.toInt ∧ x15.toInt ≤ 7 := g_msk e16 3 (by decide) (by decide) (by decide)
  refine g_put (w' := [(t0, .inr (4, [.ref c0, .ref c1, .ref c2, .int x4, .int i1, .int i2, .int i3, .int i4, .int i5, .int i6, .ref c3, .int x15, .int i8, .int i9])), (c0, .inl (dA 0, 4096, .inl m0)), (c1, .inl (dA 0, 8, .inl m1)), (c2, .inl (dA 0, 4, .inl m2)), (c3, .inl (dA 0, 30, .inl m3))]) hx hb hg hown hK hP hD hS 0 rfl rfl inX4 tyX4_ok nmX4 11 (by decide) q574 rfl rfl rfl (Nat.le_of_ble_eq_true rfl) rfl dX4_fetchM_22 (fun H locs hP hD hS => ?_)
  refine lv_aload_n hx hb dX4_fetchM_25 rfl (lv_at hl 3 rfl) ?_
  refine lv_iload_n hx hb dX4_fetchM_26 rfl (lv_at hl 1 rfl) ?_
  refine lv_iconst (v := 3) hx hb dX4_fetchM_27 (by decide) ?_
  refine lv_icmp_ne (tgt := 35) hx hb dX4_fetchM_28 (by decide) (fun k18 => ?_) (fun k18 => ?_)
  · have g19 : x6.toInt ≠ 3 := gi_neq (rfl : x6.toInt = x6.toInt) (by decide : (3 : Int32).toInt = 3) k18
    refine lv_iconst (v := (-1)) hx hb dX4_fetchM_35 (by decide) ?_
    refine g_put (w' := [(t0, .inr (4, [.ref c0, .ref c1, .ref c2, .int x4, .int i1, .int i2, .int i3, .int i4, .int i5, .int i6, .ref c3, .int x15, .int (-1), .int i9])), (c0, .inl (dA 0, 4096, .inl m0)), (c1, .inl (dA 0, 8, .inl m1)), (c2, .inl (dA 0, 4, .inl m2)), (c3, .inl (dA 0, 30, .inl m3))]) hx hb hg hown hK hP hD hS 0 rfl rfl inX4 tyX4_ok nmX4 12 (by decide) q575 rfl rfl rfl (Nat.le_of_ble_eq_true rfl) rfl dX4_fetchM_36 (fun H locs hP hD hS => ?_)
    refine lv_iload_n hx hb dX4_fetchM_39 rfl (lv_at hl 1 rfl) ?_
    refine lv_iconst (v := 3) hx hb dX4_fetchM_40 (by decide) ?_
    refine lv_icmp_ne (tgt := 45) hx hb dX4_fetchM_41 (by decide) (fun k20 => ?_) (fun k20 => ?_)
    · have g21 : x6.toInt ≠ 3 := gi_neq (rfl : x6.toInt = x6.toInt) (by decide : (3 : Int32).toInt = 3) k20
      refine lv_iload_n hx hb dX4_fetchM_45 rfl (lv_at hl 1 rfl) ?_
      refine lv_if_ne (tgt := 59) hx hb dX4_fetchM_46 (by decide) (fun k22 => ?_) (fun k22 => ?_)
      · have g23 : x6.toInt ≠ 0 := gi_neq (rfl : x6.toInt = x6.toInt) (by decide : (0 : Int32).toInt = 0) k22
        refine lv_iconst (v := 0) hx hb dX4_fetchM_59 (by decide) ?_
        refine lv_istore (lv' := [(4, .int 0), (3, .int x9), (2, .int x6), (1, .int x2), (0, .ref t0)]) hx hb dX4_fetchM_60 hl (by decide) rfl (fun ls hl => ?_)
        refine lv_iload hx hb dX4_fetchM_62 (lv_at hl 0 rfl) ?_
        refine lv_if_eq (tgt := 71) hx hb dX4_fetchM_64 (by decide) (fun _ => ?_) (fun h => absurd (by decide) h)
        refine lv_aload_n hx hb dX4_fetchM_71 rfl (lv_at hl 4 rfl) ?_
        refine lv_iload_n hx hb dX4_fetchM_72 rfl (lv_at hl 1 rfl) ?_
        refine g_Vi (n := 1) (As := [.int x9]) (rest := []) (wr := []) hx hb hml hg hown hK hP hD hS hA (s_X4_registerSum l D dA t0 x9 c0 c1 c2 x4 i1 i2 i3 i4 i5 i6 c3 x15 (-1) i9 m0 m1 m2 m3 (by omega) (by omega) (by omega) (by omega) (by decide) p4 _) [0, 1, 2, 3, 4] [] rfl (by decide) rfl (by decide) (by decide) 0 rfl rfl q1427 q159 q1424 q1426 q58 (by decide +kernel) ⟨(Nat.le_of_ble_eq_true rfl), (Nat.le_of_ble_eq_true rfl)⟩ rfl hl.1 rfl (Nat.le_of_ble_eq_true rfl) dX4_fetchM_73 ⟨(Nat.le_of_ble_eq_true rfl), (Nat.le_of_ble_eq_true rfl)⟩ (fun x25 u24 H locs w26 hP hD hS => ?_)
        refine W.widen (k := 0) (n := 0) (Nat.le_of_ble_eq_true rfl) (Nat.le_of_ble_eq_true rfl) ?_
        have hP : va_P D vwC [(t0, .inr (4, [.ref c0, .ref c1, .ref c2, .int x4, .int i1, .int i2, .int i3, .int i4, .int i5, .int i6, .ref c3, .int x15, .int (-1), .int i9])), (c0, .inl (dA 0, 4096, .inl m0)), (c1, .inl (dA 0, 8, .inl m1)), (c2, .inl (dA 0, 4, .inl m2)), (c3, .inl (dA 0, 30, .inl m3))] H := hP
        have hD : va_D A [(t0, .inr (4, [.ref c0, .ref c1, .ref c2, .int x4, .int i1, .int i2, .int i3, .int i4, .int i5, .int i6, .ref c3, .int x15, .int (-1), .int i9])), (c0, .inl (dA 0, 4096, .inl m0)), (c1, .inl (dA 0, 8, .inl m1)), (c2, .inl (dA 0, 4, .inl m2)), (c3, .inl (dA 0, 30, .inl m3))] := hD
        refine lv_istore (lv' := [(5, .int x25), (4, .int 0), (3, .int x9), (2, .int x6), (1, .int x2), (0, .ref t0)]) hx hb dX4_fetchM_76 hl (by decide) rfl (fun ls hl => ?_)
        refine lv_iload hx hb dX4_fetchM_78 (lv_at hl 1 rfl) ?_
        refine lv_if_ne (tgt := 88) hx hb dX4_fetchM_80 (by decide) (fun h => absurd (by decide) h) (fun _ => ?_)
        refine lv_iload_n hx hb dX4_fetchM_83 rfl (lv_at hl 3 rfl) ?_
        refine lv_iconst (v := 2) hx hb dX4_fetchM_84 (by decide) ?_
        refine lv_icmp_ne (tgt := 100) hx hb dX4_fetchM_85 (by decide) (fun k27 => ?_) (fun k27 => ?_)
        · have g28 : x6.toInt ≠ 2 := gi_neq (rfl : x6.toInt = x6.toInt) (by decide : (2 : Int32).toInt = 2) k27
          refine lv_iload_n hx hb dX4_fetchM_100 rfl (lv_at hl 3 rfl) ?_
          refine lv_iconst (v := 1) hx hb dX4_fetchM_101 (by decide) ?_
          refine lv_icmp_ne (tgt := 114) hx hb dX4_fetchM_102 (by decide) (fun k29 => ?_) (fun k29 => ?_)
          · have g30 : x6.toInt ≠ 1 := gi_neq (rfl : x6.toInt = x6.toInt) (by decide : (1 : Int32).toInt = 1) k29
            exfalso; omega
          · have g31 : x6.toInt = 1 := gi_eq (rfl : x6.toInt = x6.toInt) (by decide : (1 : Int32).toInt = 1) k29
            refine lv_iload hx hb dX4_fetchM_105 (lv_at hl 0 rfl) ?_
            refine lv_aload_n hx hb dX4_fetchM_107 rfl (lv_at hl 5 rfl) ?_
            refine g_Vi (n := 0) (As := []) (rest := [.int x25]) (wr := []) hx hb hml hg hown hK hP hD hS hA (s_X4_fetchSigned l D dA t0 c0 c1 c2 x4 i1 i2 i3 i4 i5 i6 c3 x15 (-1) i9 m0 m1 m2 m3 (by omega) (by omega) (by omega) (by decide) p4 _) [0, 1, 2, 3, 4] [] rfl (by decide) rfl (by decide) (by decide) 0 rfl rfl q1435 q159 q1432 q1434 q60 (by decide +kernel) ⟨(Nat.le_of_ble_eq_true rfl), (Nat.le_of_ble_eq_true rfl)⟩ rfl hl.1 rfl (Nat.le_of_ble_eq_true rfl) dX4_fetchM_108 ⟨(Nat.le_of_ble_eq_true rfl), (Nat.le_of_ble_eq_true rfl)⟩ (fun x33 u32 H locs w34 hP hD hS => ?_)
            refine W.widen (k := 0) (n := 0) (Nat.le_of_ble_eq_true rfl) (Nat.le_of_ble_eq_true rfl) ?_
            obtain ⟨x35, rfl⟩ : ∃ z, z = u32 := ⟨_, rfl⟩
            have hP : va_P D vwC [(t0, .inr (4, [.ref c0, .ref c1, .ref c2, .int x35, .int i1, .int i2, .int i3, .int i4, .int i5, .int i6, .ref c3, .int x15, .int (-1), .int i9])), (c0, .inl (dA 0, 4096, .inl m0)), (c1, .inl (dA 0, 8, .inl m1)), (c2, .inl (dA 0, 4, .inl m2)), (c3, .inl (dA 0, 30, .inl m3))] H := hP
            have hD : va_D A [(t0, .inr (4, [.ref c0, .ref c1, .ref c2, .int x35, .int i1, .int i2, .int i3, .int i4, .int i5, .int i6, .ref c3, .int x15, .int (-1), .int i9])), (c0, .inl (dA 0, 4096, .inl m0)), (c1, .inl (dA 0, 8, .inl m1)), (c2, .inl (dA 0, 4, .inl m2)), (c3, .inl (dA 0, 30, .inl m3))] := hD
            have g36 := w34
            have g36 : -128 ≤ x33.toInt ∧ x33.toInt ≤ 127 := g36
            refine lv_iadd hx hb dX4_fetchM_111 ?_
            have g37 := g_i32 x25
            refine lv_topi (fun x38 e39 => ?_)
            refine lv_istore (lv' := [(5, .int x38), (4, .int 0), (3, .int x9), (2, .int x6), (1, .int x2), (0, .ref t0)]) hx hb dX4_fetchM_112 hl (by decide) rfl (fun ls hl => ?_)
            refine lv_iload_n hx hb dX4_fetchM_114 rfl (lv_at hl 2 rfl) ?_
            refine lv_iconst (v := 2) hx hb dX4_fetchM_115 (by decide) ?_
            refine lv_icmp_eq (tgt := 135) hx hb dX4_fetchM_116 (by decide) (fun k40 => ?_) (fun k40 => ?_)
            · have g41 : x9.toInt = 2 := gi_eq (rfl : x9.toInt = x9.toInt) (by decide : (2 : Int32).toInt = 2) k40
              refine lv_iconst (v := 1) hx hb dX4_fetchM_135 (by decide) ?_
              refine lv_goto (tgt := 140) hx hb dX4_fetchM_136 (by decide) ?_
              refine lv_istore (lv' := [(6, .int 1), (5, .int x38), (4, .int 0), (3, .int x9), (2, .int x6), (1, .int x2), (0, .ref t0)]) hx hb dX4_fetchM_140 hl (by decide) rfl (fun ls hl => ?_)
              refine lv_aload_n hx hb dX4_fetchM_142 rfl (lv_at hl 6 rfl) ?_
              refine lv_bipush (v := 16) hx hb dX4_fetchM_143 (by decide) ?_
              refine lv_aload_n hx hb dX4_fetchM_145 rfl (lv_at hl 6 rfl) ?_
              refine g_get hx hb hg hown hK hP 0 rfl rfl inX4 2 (by decide) q556 rfl dX4_fetchM_146 ?_
              refine lv_iload hx hb dX4_fetchM_149 (lv_at hl 0 rfl) ?_
              refine lv_if_eq (tgt := 158) hx hb dX4_fetchM_151 (by decide) (fun h => absurd h (by decide)) (fun _ => ?_)
              refine lv_iconst (v := 2) hx hb dX4_fetchM_154 (by decide) ?_
              refine lv_goto (tgt := 159) hx hb dX4_fetchM_155 (by decide) ?_
              refine va_iald hx hb hK hP 3 0 rfl rfl (by unfold vp_in; decide) dX4_fetchM_159 ?_
              refine lv_topi (fun x42 e43 => ?_)
              refine lv_imul hx hb dX4_fetchM_160 ?_
              have g44 := g_i32 x42
              refine lv_topi (fun x45 e46 => ?_)
              refine lv_iload hx hb dX4_fetchM_161 (lv_at hl 1 rfl) ?_
              refine lv_ldc hx hb hown (hg _ q1400) dX4_fetchM_163 ?_
              refine lv_iand hx hb dX4_fetchM_165 ?_
              refine lv_topi (fun x47 e48 => ?_)
              have g49 : 0 ≤ x47.toInt ∧ x47.toInt ≤ 65535 := g_msk e48 16 (by decide) (by decide) (by decide)
              refine lv_iadd hx hb dX4_fetchM_166 ?_
              have g50 := g_i32 x45
              refine lv_topi (fun x51 e52 => ?_)
              refine g_put (w' := [(t0, .inr (4, [.ref c0, .ref c1, .ref c2, .int x35, .int i1, .int i2, .int i3, .int i4, .int i5, .int i6, .ref c3, .int x15, .int (-1), .int x51])), (c0, .inl (dA 0, 4096, .inl m0)), (c1, .inl (dA 0, 8, .inl m1)), (c2, .inl (dA 0, 4, .inl m2)), (c3, .inl (dA 0, 30, .inl m3))]) hx hb hg hown hK hP hD hS 0 rfl rfl inX4 tyX4_ok nmX4 13 (by decide) q576 rfl rfl rfl (Nat.le_of_ble_eq_true rfl) rfl dX4_fetchM_167 (fun H locs hP hD hS => ?_)
              exact g_vret hx hb hr hlocks hK (x35, x15, (-1), x51) hP hD hS ⟨(show 0 ≤ x15.toInt ∧ x15.toInt ≤ 7 from by omega), (show -1 ≤ ((-1 : Int32)).toInt ∧ ((-1 : Int32)).toInt ≤ 7 from by decide)⟩ (Nat.le_of_ble_eq_true rfl) (Nat.le_of_ble_eq_true rfl) dX4_fetchM_170
            · have g53 : x9.toInt ≠ 2 := gi_neq (rfl : x9.toInt = x9.toInt) (by decide : (2 : Int32).toInt = 2) k40
              refine lv_iload_n hx hb dX4_fetchM_119 rfl (lv_at hl 2 rfl) ?_
              refine lv_iconst (v := 3) hx hb dX4_fetchM_120 (by decide) ?_
              refine lv_icmp_eq (tgt := 135) hx hb dX4_fetchM_121 (by decide) (fun k54 => ?_) (fun k54 => ?_)
              · have g55 : x9.toInt = 3 := gi_eq (rfl : x9.toInt = x9.toInt) (by decide : (3 : Int32).toInt = 3) k54
                refine lv_iconst (v := 1) hx hb dX4_fetchM_135 (by decide) ?_
                refine lv_goto (tgt := 140) hx hb dX4_fetchM_136 (by decide) ?_
                refine lv_istore (lv' := [(6, .int 1), (5, .int x38), (4, .int 0), (3, .int x9), (2, .int x6), (1, .int x2), (0, .ref t0)]) hx hb dX4_fetchM_140 hl (by decide) rfl (fun ls hl => ?_)
                refine lv_aload_n hx hb dX4_fetchM_142 rfl (lv_at hl 6 rfl) ?_
                refine lv_bipush (v := 16) hx hb dX4_fetchM_143 (by decide) ?_
                refine lv_aload_n hx hb dX4_fetchM_145 rfl (lv_at hl 6 rfl) ?_
                refine g_get hx hb hg hown hK hP 0 rfl rfl inX4 2 (by decide) q556 rfl dX4_fetchM_146 ?_
                refine lv_iload hx hb dX4_fetchM_149 (lv_at hl 0 rfl) ?_
                refine lv_if_eq (tgt := 158) hx hb dX4_fetchM_151 (by decide) (fun h => absurd h (by decide)) (fun _ => ?_)
                refine lv_iconst (v := 2) hx hb dX4_fetchM_154 (by decide) ?_
                refine lv_goto (tgt := 159) hx hb dX4_fetchM_155 (by decide) ?_
                refine va_iald hx hb hK hP 3 0 rfl rfl (by unfold vp_in; decide) dX4_fetchM_159 ?_
                refine lv_topi (fun x56 e57 => ?_)
                refine lv_imul hx hb dX4_fetchM_160 ?_
                have g58 := g_i32 x56
                refine lv_topi (fun x59 e60 => ?_)
                refine lv_iload hx hb dX4_fetchM_161 (lv_at hl 1 rfl) ?_
                refine lv_ldc hx hb hown (hg _ q1400) dX4_fetchM_163 ?_
                refine lv_iand hx hb dX4_fetchM_165 ?_
                refine lv_topi (fun x61 e62 => ?_)
                have g63 : 0 ≤ x61.toInt ∧ x61.toInt ≤ 65535 := g_msk e62 16 (by decide) (by decide) (by decide)
                refine lv_iadd hx hb dX4_fetchM_166 ?_
                have g64 := g_i32 x59
                refine lv_topi (fun x65 e66 => ?_)
                refine g_put (w' := [(t0, .inr (4, [.ref c0, .ref c1, .ref c2, .int x35, .int i1, .int i2, .int i3, .int i4, .int i5, .int i6, .ref c3, .int x15, .int (-1), .int x65])), (c0, .inl (dA 0, 4096, .inl m0)), (c1, .inl (dA 0, 8, .inl m1)), (c2, .inl (dA 0, 4, .inl m2)), (c3, .inl (dA 0, 30, .inl m3))]) hx hb hg hown hK hP hD hS 0 rfl rfl inX4 tyX4_ok nmX4 13 (by decide) q576 rfl rfl rfl (Nat.le_of_ble_eq_true rfl) rfl dX4_fetchM_167 (fun H locs hP hD hS => ?_)
                exact g_vret hx hb hr hlocks hK (x35, x15, (-1), x65) hP hD hS ⟨(show 0 ≤ x15.toInt ∧ x15.toInt ≤ 7 from by omega), (show -1 ≤ ((-1 : Int32)).toInt ∧ ((-1 : Int32)).toInt ≤ 7 from by decide)⟩ (Nat.le_of_ble_eq_true rfl) (Nat.le_of_ble_eq_true rfl) dX4_fetchM_170
              · have g67 : x9.toInt ≠ 3 := gi_neq (rfl : x9.toInt = x9.toInt) (by decide : (3 : Int32).toInt = 3) k54
                refine lv_iload_n hx hb dX4_fetchM_124 rfl (lv_at hl 2 rfl) ?_
                refine lv_bipush (v := 6) hx hb dX4_fetchM_125 (by decide) ?_
                refine lv_icmp_ne (tgt := 139) hx hb dX4_fetchM_127 (by decide) (fun k68 => ?_) (fun k68 => ?_)
                · have g69 : x9.toInt ≠ 6 := gi_neq (rfl : x9.toInt = x9.toInt) (by decide : (6 : Int32).toInt = 6) k68
                  refine lv_iconst (v := 0) hx hb dX4_fetchM_139 (by decide) ?_
                  refine lv_istore (lv' := [(6, .int 0), (5, .int x38), (4, .int 0), (3, .int x9), (2, .int x6), (1, .int x2), (0, .ref t0)]) hx hb dX4_fetchM_140 hl (by decide) rfl (fun ls hl => ?_)
                  refine lv_aload_n hx hb dX4_fetchM_142 rfl (lv_at hl 6 rfl) ?_
                  refine lv_bipush (v := 16) hx hb dX4_fetchM_143 (by decide) ?_
                  refine lv_aload_n hx hb dX4_fetchM_145 rfl (lv_at hl 6 rfl) ?_
                  refine g_get hx hb hg hown hK hP 0 rfl rfl inX4 2 (by decide) q556 rfl dX4_fetchM_146 ?_
                  refine lv_iload hx hb dX4_fetchM_149 (lv_at hl 0 rfl) ?_
                  refine lv_if_eq (tgt := 158) hx hb dX4_fetchM_151 (by decide) (fun _ => ?_) (fun h => absurd (by decide) h)
                  refine lv_iconst (v := 3) hx hb dX4_fetchM_158 (by decide) ?_
                  refine va_iald hx hb hK hP 3 0 rfl rfl (by unfold vp_in; decide) dX4_fetchM_159 ?_
                  refine lv_topi (fun x70 e71 => ?_)
                  refine lv_imul hx hb dX4_fetchM_160 ?_
                  have g72 := g_i32 x70
                  refine lv_topi (fun x73 e74 => ?_)
                  refine lv_iload hx hb dX4_fetchM_161 (lv_at hl 1 rfl) ?_
                  refine lv_ldc hx hb hown (hg _ q1400) dX4_fetchM_163 ?_
                  refine lv_iand hx hb dX4_fetchM_165 ?_
                  refine lv_topi (fun x75 e76 => ?_)
                  have g77 : 0 ≤ x75.toInt ∧ x75.toInt ≤ 65535 := g_msk e76 16 (by decide) (by decide) (by decide)
                  refine lv_iadd hx hb dX4_fetchM_166 ?_
                  have g78 := g_i32 x73
                  refine lv_topi (fun x79 e80 => ?_)
                  refine g_put (w' := [(t0, .inr (4, [.ref c0, .ref c1, .ref c2, .int x35, .int i1, .int i2, .int i3, .int i4, .int i5, .int i6, .ref c3, .int x15, .int (-1), .int x79])), (c0, .inl (dA 0, 4096, .inl m0)), (c1, .inl (dA 0, 8, .inl m1)), (c2, .inl (dA 0, 4, .inl m2)), (c3, .inl (dA 0, 30, .inl m3))]) hx hb hg hown hK hP hD hS 0 rfl rfl inX4 tyX4_ok nmX4 13 (by decide) q576 rfl rfl rfl (Nat.le_of_ble_eq_true rfl) rfl dX4_fetchM_167 (fun H locs hP hD hS => ?_)
                  exact g_vret hx hb hr hlocks hK (x35, x15, (-1), x79) hP hD hS ⟨(show 0 ≤ x15.toInt ∧ x15.toInt ≤ 7 from by omega), (show -1 ≤ ((-1 : Int32)).toInt ∧ ((-1 : Int32)).toInt ≤ 7 from by decide)⟩ (Nat.le_of_ble_eq_true rfl) (Nat.le_of_ble_eq_true rfl) dX4_fetchM_170
                · have g81 : x9.toInt = 6 := gi_eq (rfl : x9.toInt = x9.toInt) (by decide : (6 : Int32).toInt = 6) k68
                  refine lv_iload hx hb dX4_fetchM_130 (lv_at hl 1 rfl) ?_
                  refine lv_if_ne (tgt := 139) hx hb dX4_fetchM_132 (by decide) (fun h => absurd (by decide) h) (fun _ => ?_)
                  refine lv_iconst (v := 1) hx hb dX4_fetchM_135 (by decide) ?_
                  refine lv_goto (tgt := 140) hx hb dX4_fetchM_136 (by decide) ?_
                  refine lv_istore (lv' := [(6, .int 1), (5, .int x38), (4, .int 0), (3, .int x9), (2, .int x6), (1, .int x2), (0, .ref t0)]) hx hb dX4_fetchM_140 hl (by decide) rfl (fun ls hl => ?_)
                  refine lv_aload_n hx hb dX4_fetchM_142 rfl (lv_at hl 6 rfl) ?_
                  refine lv_bipush (v := 16) hx hb dX4_fetchM_143 (by decide) ?_
                  refine lv_aload_n hx hb dX4_fetchM_145 rfl (lv_at hl 6 rfl) ?_
                  refine g_get hx hb hg hown hK hP 0 rfl rfl inX4 2 (by decide) q556 rfl dX4_fetchM_146 ?_
                  refine lv_iload hx hb dX4_fetchM_149 (lv_at hl 0 rfl) ?_
                  refine lv_if_eq (tgt := 158) hx hb dX4_fetchM_151 (by decide) (fun h => absurd h (by decide)) (fun _ => ?_)
                  refine lv_iconst (v := 2) hx hb dX4_fetchM_154 (by decide) ?_
                  refine lv_goto (tgt := 159) hx hb dX4_fetchM_155 (by decide) ?_
                  refine va_iald hx hb hK hP 3 0 rfl rfl (by unfold vp_in; decide) dX4_fetchM_159 ?_
                  refine lv_topi (fun x82 e83 => ?_)
                  refine lv_imul hx hb dX4_fetchM_160 ?_
                  have g84 := g_i32 x82
                  refine lv_topi (fun x85 e86 => ?_)
                  refine lv_iload hx hb dX4_fetchM_161 (lv_at hl 1 rfl) ?_
                  refine lv_ldc hx hb hown (hg _ q1400) dX4_fetchM_163 ?_
                  refine lv_iand hx hb dX4_fetchM_165 ?_
                  refine lv_topi (fun x87 e88 => ?_)
                  have g89 : 0 ≤ x87.toInt ∧ x87.toInt ≤ 65535 := g_msk e88 16 (by decide) (by decide) (by decide)
                  refine lv_iadd hx hb dX4_fetchM_166 ?_
                  have g90 := g_i32 x85
                  refine lv_topi (fun x91 e92 => ?_)
                  refine g_put (w' := [(t0, .inr (4, [.ref c0, .ref c1, .ref c2, .int x35, .int i1, .int i2, .int i3, .int i4, .int i5, .int i6, .ref c3, .int x15, .int (-1), .int x91])), (c0, .inl (dA 0, 4096, .inl m0)), (c1, .inl (dA 0, 8, .inl m1)), (c2, .inl (dA 0, 4, .inl m2)), (c3, .inl (dA 0, 30, .inl m3))]) hx hb hg hown hK hP hD hS 0 rfl rfl inX4 tyX4_ok nmX4 13 (by decide) q576 rfl rfl rfl (Nat.le_of_ble_eq_true rfl) rfl dX4_fetchM_167 (fun H locs hP hD hS => ?_)
                  exact g_vret hx hb hr hlocks hK (x35, x15, (-1), x91) hP hD hS ⟨(show 0 ≤ x15.toInt ∧ x15.toInt ≤ 7 from by omega), (show -1 ≤ ((-1 : Int32)).toInt ∧ ((-1 : Int32)).toInt ≤ 7 from by decide)⟩ (Nat.le_of_ble_eq_true rfl) (Nat.le_of_ble_eq_true rfl) dX4_fetchM_170
        · have g93 : x6.toInt = 2 := gi_eq (rfl : x6.toInt = x6.toInt) (by decide : (2 : Int32).toInt = 2) k27
          refine lv_iload hx hb dX4_fetchM_88 (lv_at hl 0 rfl) ?_
          refine lv_aload_n hx hb dX4_fetchM_90 rfl (lv_at hl 5 rfl) ?_
          refine g_Vi (n := 0) (As := []) (rest := [.int x25]) (wr := []) hx hb hml hg hown hK hP hD hS hA (s_X4_fetchWord l D dA t0 c0 c1 c2 x4 i1 i2 i3 i4 i5 i6 c3 x15 (-1) i9 m0 m1 m2 m3 (by omega) (by omega) (by omega) (by decide) p4 _) [0, 1, 2, 3, 4] [] rfl (by decide) rfl (by decide) (by decide) 0 rfl rfl q1431 q159 q1428 q1430 q59 (by decide +kernel) ⟨(Nat.le_of_ble_eq_true rfl), (Nat.le_of_ble_eq_true rfl)⟩ rfl hl.1 rfl (Nat.le_of_ble_eq_true rfl) dX4_fetchM_91 ⟨(Nat.le_of_ble_eq_true rfl), (Nat.le_of_ble_eq_true rfl)⟩ (fun x95 u94 H locs w96 hP hD hS => ?_)
          refine W.widen (k := 0) (n := 0) (Nat.le_of_ble_eq_true rfl) (Nat.le_of_ble_eq_true rfl) ?_
          obtain ⟨x97, rfl⟩ : ∃ z, z = u94 := ⟨_, rfl⟩
          have hP : va_P D vwC [(t0, .inr (4, [.ref c0, .ref c1, .ref c2, .int x97, .int i1, .int i2, .int i3, .int i4, .int i5, .int i6, .ref c3, .int x15, .int (-1), .int i9])), (c0, .inl (dA 0, 4096, .inl m0)), (c1, .inl (dA 0, 8, .inl m1)), (c2, .inl (dA 0, 4, .inl m2)), (c3, .inl (dA 0, 30, .inl m3))] H := hP
          have hD : va_D A [(t0, .inr (4, [.ref c0, .ref c1, .ref c2, .int x97, .int i1, .int i2, .int i3, .int i4, .int i5, .int i6, .ref c3, .int x15, .int (-1), .int i9])), (c0, .inl (dA 0, 4096, .inl m0)), (c1, .inl (dA 0, 8, .inl m1)), (c2, .inl (dA 0, 4, .inl m2)), (c3, .inl (dA 0, 30, .inl m3))] := hD
          refine lv_iadd hx hb dX4_fetchM_94 ?_
          have g98 := g_i32 x25
          have g99 := g_i32 x95
          refine lv_topi (fun x100 e101 => ?_)
          refine lv_istore (lv' := [(5, .int x100), (4, .int 0), (3, .int x9), (2, .int x6), (1, .int x2), (0, .ref t0)]) hx hb dX4_fetchM_95 hl (by decide) rfl (fun ls hl => ?_)
          refine lv_goto (tgt := 114) hx hb dX4_fetchM_97 (by decide) ?_
          refine lv_iload_n hx hb dX4_fetchM_114 rfl (lv_at hl 2 rfl) ?_
          refine lv_iconst (v := 2) hx hb dX4_fetchM_115 (by decide) ?_
          refine lv_icmp_eq (tgt := 135) hx hb dX4_fetchM_116 (by decide) (fun k102 => ?_) (fun k102 => ?_)
          · have g103 : x9.toInt = 2 := gi_eq (rfl : x9.toInt = x9.toInt) (by decide : (2 : Int32).toInt = 2) k102
            refine lv_iconst (v := 1) hx hb dX4_fetchM_135 (by decide) ?_
            refine lv_goto (tgt := 140) hx hb dX4_fetchM_136 (by decide) ?_
            refine lv_istore (lv' := [(6, .int 1), (5, .int x100), (4, .int 0), (3, .int x9), (2, .int x6), (1, .int x2), (0, .ref t0)]) hx hb dX4_fetchM_140 hl (by decide) rfl (fun ls hl => ?_)
            refine lv_aload_n hx hb dX4_fetchM_142 rfl (lv_at hl 6 rfl) ?_
            refine lv_bipush (v := 16) hx hb dX4_fetchM_143 (by decide) ?_
            refine lv_aload_n hx hb dX4_fetchM_145 rfl (lv_at hl 6 rfl) ?_
            refine g_get hx hb hg hown hK hP 0 rfl rfl inX4 2 (by decide) q556 rfl dX4_fetchM_146 ?_
            refine lv_iload hx hb dX4_fetchM_149 (lv_at hl 0 rfl) ?_
            refine lv_if_eq (tgt := 158) hx hb dX4_fetchM_151 (by decide) (fun h => absurd h (by decide)) (fun _ => ?_)
            refine lv_iconst (v := 2) hx hb dX4_fetchM_154 (by decide) ?_
            refine lv_goto (tgt := 159) hx hb dX4_fetchM_155 (by decide) ?_
            refine va_iald hx hb hK hP 3 0 rfl rfl (by unfold vp_in; decide) dX4_fetchM_159 ?_
            refine lv_topi (fun x104 e105 => ?_)
            refine lv_imul hx hb dX4_fetchM_160 ?_
            have g106 := g_i32 x104
            refine lv_topi (fun x107 e108 => ?_)
            refine lv_iload hx hb dX4_fetchM_161 (lv_at hl 1 rfl) ?_
            refine lv_ldc hx hb hown (hg _ q1400) dX4_fetchM_163 ?_
            refine lv_iand hx hb dX4_fetchM_165 ?_
            refine lv_topi (fun x109 e110 => ?_)
            have g111 : 0 ≤ x109.toInt ∧ x109.toInt ≤ 65535 := g_msk e110 16 (by decide) (by decide) (by decide)
            refine lv_iadd hx hb dX4_fetchM_166 ?_
            have g112 := g_i32 x107
            refine lv_topi (fun x113 e114 => ?_)
            refine g_put (w' := [(t0, .inr (4, [.ref c0, .ref c1, .ref c2, .int x97, .int i1, .int i2, .int i3, .int i4, .int i5, .int i6, .ref c3, .int x15, .int (-1), .int x113])), (c0, .inl (dA 0, 4096, .inl m0)), (c1, .inl (dA 0, 8, .inl m1)), (c2, .inl (dA 0, 4, .inl m2)), (c3, .inl (dA 0, 30, .inl m3))]) hx hb hg hown hK hP hD hS 0 rfl rfl inX4 tyX4_ok nmX4 13 (by decide) q576 rfl rfl rfl (Nat.le_of_ble_eq_true rfl) rfl dX4_fetchM_167 (fun H locs hP hD hS => ?_)
            exact g_vret hx hb hr hlocks hK (x97, x15, (-1), x113) hP hD hS ⟨(show 0 ≤ x15.toInt ∧ x15.toInt ≤ 7 from by omega), (show -1 ≤ ((-1 : Int32)).toInt ∧ ((-1 : Int32)).toInt ≤ 7 from by decide)⟩ (Nat.le_of_ble_eq_true rfl) (Nat.le_of_ble_eq_true rfl) dX4_fetchM_170
          · have g115 : x9.toInt ≠ 2 := gi_neq (rfl : x9.toInt = x9.toInt) (by decide : (2 : Int32).toInt = 2) k102
            refine lv_iload_n hx hb dX4_fetchM_119 rfl (lv_at hl 2 rfl) ?_
            refine lv_iconst (v := 3) hx hb dX4_fetchM_120 (by decide) ?_
            refine lv_icmp_eq (tgt := 135) hx hb dX4_fetchM_121 (by decide) (fun k116 => ?_) (fun k116 => ?_)
            · have g117 : x9.toInt = 3 := gi_eq (rfl : x9.toInt = x9.toInt) (by decide : (3 : Int32).toInt = 3) k116
              refine lv_iconst (v := 1) hx hb dX4_fetchM_135 (by decide) ?_
              refine lv_goto (tgt := 140) hx hb dX4_fetchM_136 (by decide) ?_
              refine lv_istore (lv' := [(6, .int 1), (5, .int x100), (4, .int 0), (3, .int x9), (2, .int x6), (1, .int x2), (0, .ref t0)]) hx hb dX4_fetchM_140 hl (by decide) rfl (fun ls hl => ?_)
              refine lv_aload_n hx hb dX4_fetchM_142 rfl (lv_at hl 6 rfl) ?_
              refine lv_bipush (v := 16) hx hb dX4_fetchM_143 (by decide) ?_
              refine lv_aload_n hx hb dX4_fetchM_145 rfl (lv_at hl 6 rfl) ?_
              refine g_get hx hb hg hown hK hP 0 rfl rfl inX4 2 (by decide) q556 rfl dX4_fetchM_146 ?_
              refine lv_iload hx hb dX4_fetchM_149 (lv_at hl 0 rfl) ?_
              refine lv_if_eq (tgt := 158) hx hb dX4_fetchM_151 (by decide) (fun h => absurd h (by decide)) (fun _ => ?_)
              refine lv_iconst (v := 2) hx hb dX4_fetchM_154 (by decide) ?_
              refine lv_goto (tgt := 159) hx hb dX4_fetchM_155 (by decide) ?_
              refine va_iald hx hb hK hP 3 0 rfl rfl (by unfold vp_in; decide) dX4_fetchM_159 ?_
              refine lv_topi (fun x118 e119 => ?_)
              refine lv_imul hx hb dX4_fetchM_160 ?_
              have g120 := g_i32 x118
              refine lv_topi (fun x121 e122 => ?_)
              refine lv_iload hx hb dX4_fetchM_161 (lv_at hl 1 rfl) ?_
              refine lv_ldc hx hb hown (hg _ q1400) dX4_fetchM_163 ?_
              refine lv_iand hx hb dX4_fetchM_165 ?_
              refine lv_topi (fun x123 e124 => ?_)
              have g125 : 0 ≤ x123.toInt ∧ x123.toInt ≤ 65535 := g_msk e124 16 (by decide) (by decide) (by decide)
              refine lv_iadd hx hb dX4_fetchM_166 ?_
              have g126 := g_i32 x121
              refine lv_topi (fun x127 e128 => ?_)
              refine g_put (w' := [(t0, .inr (4, [.ref c0, .ref c1, .ref c2, .int x97, .int i1, .int i2, .int i3, .int i4, .int i5, .int i6, .ref c3, .int x15, .int (-1), .int x127])), (c0, .inl (dA 0, 4096, .inl m0)), (c1, .inl (dA 0, 8, .inl m1)), (c2, .inl (dA 0, 4, .inl m2)), (c3, .inl (dA 0, 30, .inl m3))]) hx hb hg hown hK hP hD hS 0 rfl rfl inX4 tyX4_ok nmX4 13 (by decide) q576 rfl rfl rfl (Nat.le_of_ble_eq_true rfl) rfl dX4_fetchM_167 (fun H locs hP hD hS => ?_)
              exact g_vret hx hb hr hlocks hK (x97, x15, (-1), x127) hP hD hS ⟨(show 0 ≤ x15.toInt ∧ x15.toInt ≤ 7 from by omega), (show -1 ≤ ((-1 : Int32)).toInt ∧ ((-1 : Int32)).toInt ≤ 7 from by decide)⟩ (Nat.le_of_ble_eq_true rfl) (Nat.le_of_ble_eq_true rfl) dX4_fetchM_170
            · have g129 : x9.toInt ≠ 3 := gi_neq (rfl : x9.toInt = x9.toInt) (by decide : (3 : Int32).toInt = 3) k116
              refine lv_iload_n hx hb dX4_fetchM_124 rfl (lv_at hl 2 rfl) ?_
              refine lv_bipush (v := 6) hx hb dX4_fetchM_125 (by decide) ?_
              refine lv_icmp_ne (tgt := 139) hx hb dX4_fetchM_127 (by decide) (fun k130 => ?_) (fun k130 => ?_)
              · have g131 : x9.toInt ≠ 6 := gi_neq (rfl : x9.toInt = x9.toInt) (by decide : (6 : Int32).toInt = 6) k130
                refine lv_iconst (v := 0) hx hb dX4_fetchM_139 (by decide) ?_
                refine lv_istore (lv' := [(6, .int 0), (5, .int x100), (4, .int 0), (3, .int x9), (2, .int x6), (1, .int x2), (0, .ref t0)]) hx hb dX4_fetchM_140 hl (by decide) rfl (fun ls hl => ?_)
                refine lv_aload_n hx hb dX4_fetchM_142 rfl (lv_at hl 6 rfl) ?_
                refine lv_bipush (v := 16) hx hb dX4_fetchM_143 (by decide) ?_
                refine lv_aload_n hx hb dX4_fetchM_145 rfl (lv_at hl 6 rfl) ?_
                refine g_get hx hb hg hown hK hP 0 rfl rfl inX4 2 (by decide) q556 rfl dX4_fetchM_146 ?_
                refine lv_iload hx hb dX4_fetchM_149 (lv_at hl 0 rfl) ?_
                refine lv_if_eq (tgt := 158) hx hb dX4_fetchM_151 (by decide) (fun _ => ?_) (fun h => absurd (by decide) h)
                refine lv_iconst (v := 3) hx hb dX4_fetchM_158 (by decide) ?_
                refine va_iald hx hb hK hP 3 0 rfl rfl (by unfold vp_in; decide) dX4_fetchM_159 ?_
                refine lv_topi (fun x132 e133 => ?_)
                refine lv_imul hx hb dX4_fetchM_160 ?_
                have g134 := g_i32 x132
                refine lv_topi (fun x135 e136 => ?_)
                refine lv_iload hx hb dX4_fetchM_161 (lv_at hl 1 rfl) ?_
                refine lv_ldc hx hb hown (hg _ q1400) dX4_fetchM_163 ?_
                refine lv_iand hx hb dX4_fetchM_165 ?_
                refine lv_topi (fun x137 e138 => ?_)
                have g139 : 0 ≤ x137.toInt ∧ x137.toInt ≤ 65535 := g_msk e138 16 (by decide) (by decide) (by decide)
                refine lv_iadd hx hb dX4_fetchM_166 ?_
                have g140 := g_i32 x135
                refine lv_topi (fun x141 e142 => ?_)
                refine g_put (w' := [(t0, .inr (4, [.ref c0, .ref c1, .ref c2, .int x97, .int i1, .int i2, .int i3, .int i4, .int i5, .int i6, .ref c3, .int x15, .int (-1), .int x141])), (c0, .inl (dA 0, 4096, .inl m0)), (c1, .inl (dA 0, 8, .inl m1)), (c2, .inl (dA 0, 4, .inl m2)), (c3, .inl (dA 0, 30, .inl m3))]) hx hb hg hown hK hP hD hS 0 rfl rfl inX4 tyX4_ok nmX4 13 (by decide) q576 rfl rfl rfl (Nat.le_of_ble_eq_true rfl) rfl dX4_fetchM_167 (fun H locs hP hD hS => ?_)
                exact g_vret hx hb hr hlocks hK (x97, x15, (-1), x141) hP hD hS ⟨(show 0 ≤ x15.toInt ∧ x15.toInt ≤ 7 from by omega), (show -1 ≤ ((-1 : Int32)).toInt ∧ ((-1 : Int32)).toInt ≤ 7 from by decide)⟩ (Nat.le_of_ble_eq_true rfl) (Nat.le_of_ble_eq_true rfl) dX4_fetchM_170
              · have g143 : x9.toInt = 6 := gi_eq (rfl : x9.toInt = x9.toInt) (by decide : (6 : Int32).toInt = 6) k130
                refine lv_iload hx hb dX4_fetchM_130 (lv_at hl 1 rfl) ?_
                refine lv_if_ne (tgt := 139) hx hb dX4_fetchM_132 (by decide) (fun h => absurd (by decide) h) (fun _ => ?_)
                refine lv_iconst (v := 1) hx hb dX4_fetchM_135 (by decide) ?_
                refine lv_goto (tgt := 140) hx hb dX4_fetchM_136 (by decide) ?_
                refine lv_istore (lv' := [(6, .int 1), (5, .int x100), (4, .int 0), (3, .int x9), (2, .int x6), (1, .int x2), (0, .ref t0)]) hx hb dX4_fetchM_140 hl (by decide) rfl (fun ls hl => ?_)
                refine lv_aload_n hx hb dX4_fetchM_142 rfl (lv_at hl 6 rfl) ?_
                refine lv_bipush (v := 16) hx hb dX4_fetchM_143 (by decide) ?_
                refine lv_aload_n hx hb dX4_fetchM_145 rfl (lv_at hl 6 rfl) ?_
                refine g_get hx hb hg hown hK hP 0 rfl rfl inX4 2 (by decide) q556 rfl dX4_fetchM_146 ?_
                refine lv_iload hx hb dX4_fetchM_149 (lv_at hl 0 rfl) ?_
                refine lv_if_eq (tgt := 158) hx hb dX4_fetchM_151 (by decide) (fun h => absurd h (by decide)) (fun _ => ?_)
                refine lv_iconst (v := 2) hx hb dX4_fetchM_154 (by decide) ?_
                refine lv_goto (tgt := 159) hx hb dX4_fetchM_155 (by decide) ?_
                refine va_iald hx hb hK hP 3 0 rfl rfl (by unfold vp_in; decide) dX4_fetchM_159 ?_
                refine lv_topi (fun x144 e145 => ?_)
                refine lv_imul hx hb dX4_fetchM_160 ?_
                have g146 := g_i32 x144
                refine lv_topi (fun x147 e148 => ?_)
                refine lv_iload hx hb dX4_fetchM_161 (lv_at hl 1 rfl) ?_
                refine lv_ldc hx hb hown (hg _ q1400) dX4_fetchM_163 ?_
                refine lv_iand hx hb dX4_fetchM_165 ?_
                refine lv_topi (fun x149 e150 => ?_)
                have g151 : 0 ≤ x149.toInt ∧ x149.toInt ≤ 65535 := g_msk e150 16 (by decide) (by decide) (by decide)
                refine lv_iadd hx hb dX4_fetchM_166 ?_
                have g152 := g_i32 x147
                refine lv_topi (fun x153 e154 => ?_)
                refine g_put (w' := [(t0, .inr (4, [.ref c0, .ref c1, .ref c2, .int x97, .int i1, .int i2, .int i3, .int i4, .int i5, .int i6, .ref c3, .int x15, .int (-1), .int x153])), (c0, .inl (dA 0, 4096, .inl m0)), (c1, .inl (dA 0, 8, .inl m1)), (c2, .inl (dA 0, 4, .inl m2)), (c3, .inl (dA 0, 30, .inl m3))]) hx hb hg hown hK hP hD hS 0 rfl rfl inX4 tyX4_ok nmX4 13 (by decide) q576 rfl rfl rfl (Nat.le_of_ble_eq_true rfl) rfl dX4_fetchM_167 (fun H locs hP hD hS => ?_)
                exact g_vret hx hb hr hlocks hK (x97, x15, (-1), x153) hP hD hS ⟨(show 0 ≤ x15.toInt ∧ x15.toInt ≤ 7 from by omega), (show -1 ≤ ((-1 : Int32)).toInt ∧ ((-1 : Int32)).toInt ≤ 7 from by decide)⟩ (Nat.le_of_ble_eq_true rfl) (Nat.le_of_ble_eq_true rfl) dX4_fetchM_170
      · have g155 : x6.toInt = 0 := gi_eq (rfl : x6.toInt = x6.toInt) (by decide : (0 : Int32).toInt = 0) k22
        refine lv_iload_n hx hb dX4_fetchM_49 rfl (lv_at hl 0 rfl) ?_
        refine lv_bipush (v := 6) hx hb dX4_fetchM_50 (by decide) ?_
        refine lv_icmp_ne (tgt := 59) hx hb dX4_fetchM_52 (by decide) (fun k156 => ?_) (fun k156 => ?_)
        · have g157 : x9.toInt ≠ 6 := gi_neq (rfl : x9.toInt = x9.toInt) (by decide : (6 : Int32).toInt = 6) k156
          refine lv_iconst (v := 0) hx hb dX4_fetchM_59 (by decide) ?_
          refine lv_istore (lv' := [(4, .int 0), (3, .int x9), (2, .int x6), (1, .int x2), (0, .ref t0)]) hx hb dX4_fetchM_60 hl (by decide) rfl (fun ls hl => ?_)
          refine lv_iload hx hb dX4_fetchM_62 (lv_at hl 0 rfl) ?_
          refine lv_if_eq (tgt := 71) hx hb dX4_fetchM_64 (by decide) (fun _ => ?_) (fun h => absurd (by decide) h)
          refine lv_aload_n hx hb dX4_fetchM_71 rfl (lv_at hl 4 rfl) ?_
          refine lv_iload_n hx hb dX4_fetchM_72 rfl (lv_at hl 1 rfl) ?_
          refine g_Vi (n := 1) (As := [.int x9]) (rest := []) (wr := []) hx hb hml hg hown hK hP hD hS hA (s_X4_registerSum l D dA t0 x9 c0 c1 c2 x4 i1 i2 i3 i4 i5 i6 c3 x15 (-1) i9 m0 m1 m2 m3 (by omega) (by omega) (by omega) (by omega) (by decide) p4 _) [0, 1, 2, 3, 4] [] rfl (by decide) rfl (by decide) (by decide) 0 rfl rfl q1427 q159 q1424 q1426 q58 (by decide +kernel) ⟨(Nat.le_of_ble_eq_true rfl), (Nat.le_of_ble_eq_true rfl)⟩ rfl hl.1 rfl (Nat.le_of_ble_eq_true rfl) dX4_fetchM_73 ⟨(Nat.le_of_ble_eq_true rfl), (Nat.le_of_ble_eq_true rfl)⟩ (fun x159 u158 H locs w160 hP hD hS => ?_)
          refine W.widen (k := 0) (n := 0) (Nat.le_of_ble_eq_true rfl) (Nat.le_of_ble_eq_true rfl) ?_
          have hP : va_P D vwC [(t0, .inr (4, [.ref c0, .ref c1, .ref c2, .int x4, .int i1, .int i2, .int i3, .int i4, .int i5, .int i6, .ref c3, .int x15, .int (-1), .int i9])), (c0, .inl (dA 0, 4096, .inl m0)), (c1, .inl (dA 0, 8, .inl m1)), (c2, .inl (dA 0, 4, .inl m2)), (c3, .inl (dA 0, 30, .inl m3))] H := hP
          have hD : va_D A [(t0, .inr (4, [.ref c0, .ref c1, .ref c2, .int x4, .int i1, .int i2, .int i3, .int i4, .int i5, .int i6, .ref c3, .int x15, .int (-1), .int i9])), (c0, .inl (dA 0, 4096, .inl m0)), (c1, .inl (dA 0, 8, .inl m1)), (c2, .inl (dA 0, 4, .inl m2)), (c3, .inl (dA 0, 30, .inl m3))] := hD
          refine lv_istore (lv' := [(5, .int x159), (4, .int 0), (3, .int x9), (2, .int x6), (1, .int x2), (0, .ref t0)]) hx hb dX4_fetchM_76 hl (by decide) rfl (fun ls hl => ?_)
          refine lv_iload hx hb dX4_fetchM_78 (lv_at hl 1 rfl) ?_
          refine lv_if_ne (tgt := 88) hx hb dX4_fetchM_80 (by decide) (fun h => absurd (by decide) h) (fun _ => ?_)
          refine lv_iload_n hx hb dX4_fetchM_83 rfl (lv_at hl 3 rfl) ?_
          refine lv_iconst (v := 2) hx hb dX4_fetchM_84 (by decide) ?_
          refine lv_icmp_ne (tgt := 100) hx hb dX4_fetchM_85 (by decide) (fun k161 => ?_) (fun k161 => ?_)
          · have g162 : x6.toInt ≠ 2 := gi_neq (rfl : x6.toInt = x6.toInt) (by decide : (2 : Int32).toInt = 2) k161
            refine lv_iload_n hx hb dX4_fetchM_100 rfl (lv_at hl 3 rfl) ?_
            refine lv_iconst (v := 1) hx hb dX4_fetchM_101 (by decide) ?_
            refine lv_icmp_ne (tgt := 114) hx hb dX4_fetchM_102 (by decide) (fun k163 => ?_) (fun k163 => ?_)
            · have g164 : x6.toInt ≠ 1 := gi_neq (rfl : x6.toInt = x6.toInt) (by decide : (1 : Int32).toInt = 1) k163
              refine lv_iload_n hx hb dX4_fetchM_114 rfl (lv_at hl 2 rfl) ?_
              refine lv_iconst (v := 2) hx hb dX4_fetchM_115 (by decide) ?_
              refine lv_icmp_eq (tgt := 135) hx hb dX4_fetchM_116 (by decide) (fun k165 => ?_) (fun k165 => ?_)
              · have g166 : x9.toInt = 2 := gi_eq (rfl : x9.toInt = x9.toInt) (by decide : (2 : Int32).toInt = 2) k165
                refine lv_iconst (v := 1) hx hb dX4_fetchM_135 (by decide) ?_
                refine lv_goto (tgt := 140) hx hb dX4_fetchM_136 (by decide) ?_
                refine lv_istore (lv' := [(6, .int 1), (5, .int x159), (4, .int 0), (3, .int x9), (2, .int x6), (1, .int x2), (0, .ref t0)]) hx hb dX4_fetchM_140 hl (by decide) rfl (fun ls hl => ?_)
                refine lv_aload_n hx hb dX4_fetchM_142 rfl (lv_at hl 6 rfl) ?_
                refine lv_bipush (v := 16) hx hb dX4_fetchM_143 (by decide) ?_
                refine lv_aload_n hx hb dX4_fetchM_145 rfl (lv_at hl 6 rfl) ?_
                refine g_get hx hb hg hown hK hP 0 rfl rfl inX4 2 (by decide) q556 rfl dX4_fetchM_146 ?_
                refine lv_iload hx hb dX4_fetchM_149 (lv_at hl 0 rfl) ?_
                refine lv_if_eq (tgt := 158) hx hb dX4_fetchM_151 (by decide) (fun h => absurd h (by decide)) (fun _ => ?_)
                refine lv_iconst (v := 2) hx hb dX4_fetchM_154 (by decide) ?_
                refine lv_goto (tgt := 159) hx hb dX4_fetchM_155 (by decide) ?_
                refine va_iald hx hb hK hP 3 0 rfl rfl (by unfold vp_in; decide) dX4_fetchM_159 ?_
                refine lv_topi (fun x167 e168 => ?_)
                refine lv_imul hx hb dX4_fetchM_160 ?_
                have g169 := g_i32 x167
                refine lv_topi (fun x170 e171 => ?_)
                refine lv_iload hx hb dX4_fetchM_161 (lv_at hl 1 rfl) ?_
                refine lv_ldc hx hb hown (hg _ q1400) dX4_fetchM_163 ?_
                refine lv_iand hx hb dX4_fetchM_165 ?_
                refine lv_topi (fun x172 e173 => ?_)
                have g174 : 0 ≤ x172.toInt ∧ x172.toInt ≤ 65535 := g_msk e173 16 (by decide) (by decide) (by decide)
                refine lv_iadd hx hb dX4_fetchM_166 ?_
                have g175 := g_i32 x170
                refine lv_topi (fun x176 e177 => ?_)
                refine g_put (w' := [(t0, .inr (4, [.ref c0, .ref c1, .ref c2, .int x4, .int i1, .int i2, .int i3, .int i4, .int i5, .int i6, .ref c3, .int x15, .int (-1), .int x176])), (c0, .inl (dA 0, 4096, .inl m0)), (c1, .inl (dA 0, 8, .inl m1)), (c2, .inl (dA 0, 4, .inl m2)), (c3, .inl (dA 0, 30, .inl m3))]) hx hb hg hown hK hP hD hS 0 rfl rfl inX4 tyX4_ok nmX4 13 (by decide) q576 rfl rfl rfl (Nat.le_of_ble_eq_true rfl) rfl dX4_fetchM_167 (fun H locs hP hD hS => ?_)
                exact g_vret hx hb hr hlocks hK (x4, x15, (-1), x176) hP hD hS ⟨(show 0 ≤ x15.toInt ∧ x15.toInt ≤ 7 from by omega), (show -1 ≤ ((-1 : Int32)).toInt ∧ ((-1 : Int32)).toInt ≤ 7 from by decide)⟩ (Nat.le_of_ble_eq_true rfl) (Nat.le_of_ble_eq_true rfl) dX4_fetchM_170
              · have g178 : x9.toInt ≠ 2 := gi_neq (rfl : x9.toInt = x9.toInt) (by decide : (2 : Int32).toInt = 2) k165
                refine lv_iload_n hx hb dX4_fetchM_119 rfl (lv_at hl 2 rfl) ?_
                refine lv_iconst (v := 3) hx hb dX4_fetchM_120 (by decide) ?_
                refine lv_icmp_eq (tgt := 135) hx hb dX4_fetchM_121 (by decide) (fun k179 => ?_) (fun k179 => ?_)
                · have g180 : x9.toInt = 3 := gi_eq (rfl : x9.toInt = x9.toInt) (by decide : (3 : Int32).toInt = 3) k179
                  refine lv_iconst (v := 1) hx hb dX4_fetchM_135 (by decide) ?_
                  refine lv_goto (tgt := 140) hx hb dX4_fetchM_136 (by decide) ?_
                  refine lv_istore (lv' := [(6, .int 1), (5, .int x159), (4, .int 0), (3, .int x9), (2, .int x6), (1, .int x2), (0, .ref t0)]) hx hb dX4_fetchM_140 hl (by decide) rfl (fun ls hl => ?_)
                  refine lv_aload_n hx hb dX4_fetchM_142 rfl (lv_at hl 6 rfl) ?_
                  refine lv_bipush (v := 16) hx hb dX4_fetchM_143 (by decide) ?_
                  refine lv_aload_n hx hb dX4_fetchM_145 rfl (lv_at hl 6 rfl) ?_
                  refine g_get hx hb hg hown hK hP 0 rfl rfl inX4 2 (by decide) q556 rfl dX4_fetchM_146 ?_
                  refine lv_iload hx hb dX4_fetchM_149 (lv_at hl 0 rfl) ?_
                  refine lv_if_eq (tgt := 158) hx hb dX4_fetchM_151 (by decide) (fun h => absurd h (by decide)) (fun _ => ?_)
                  refine lv_iconst (v := 2) hx hb dX4_fetchM_154 (by decide) ?_
                  refine lv_goto (tgt := 159) hx hb dX4_fetchM_155 (by decide) ?_
                  refine va_iald hx hb hK hP 3 0 rfl rfl (by unfold vp_in; decide) dX4_fetchM_159 ?_
                  refine lv_topi (fun x181 e182 => ?_)
                  refine lv_imul hx hb dX4_fetchM_160 ?_
                  have g183 := g_i32 x181
                  refine lv_topi (fun x184 e185 => ?_)
                  refine lv_iload hx hb dX4_fetchM_161 (lv_at hl 1 rfl) ?_
                  refine lv_ldc hx hb hown (hg _ q1400) dX4_fetchM_163 ?_
                  refine lv_iand hx hb dX4_fetchM_165 ?_
                  refine lv_topi (fun x186 e187 => ?_)
                  have g188 : 0 ≤ x186.toInt ∧ x186.toInt ≤ 65535 := g_msk e187 16 (by decide) (by decide) (by decide)
                  refine lv_iadd hx hb dX4_fetchM_166 ?_
                  have g189 := g_i32 x184
                  refine lv_topi (fun x190 e191 => ?_)
                  refine g_put (w' := [(t0, .inr (4, [.ref c0, .ref c1, .ref c2, .int x4, .int i1, .int i2, .int i3, .int i4, .int i5, .int i6, .ref c3, .int x15, .int (-1), .int x190])), (c0, .inl (dA 0, 4096, .inl m0)), (c1, .inl (dA 0, 8, .inl m1)), (c2, .inl (dA 0, 4, .inl m2)), (c3, .inl (dA 0, 30, .inl m3))]) hx hb hg hown hK hP hD hS 0 rfl rfl inX4 tyX4_ok nmX4 13 (by decide) q576 rfl rfl rfl (Nat.le_of_ble_eq_true rfl) rfl dX4_fetchM_167 (fun H locs hP hD hS => ?_)
                  exact g_vret hx hb hr hlocks hK (x4, x15, (-1), x190) hP hD hS ⟨(show 0 ≤ x15.toInt ∧ x15.toInt ≤ 7 from by omega), (show -1 ≤ ((-1 : Int32)).toInt ∧ ((-1 : Int32)).toInt ≤ 7 from by decide)⟩ (Nat.le_of_ble_eq_true rfl) (Nat.le_of_ble_eq_true rfl) dX4_fetchM_170
                · have g192 : x9.toInt ≠ 3 := gi_neq (rfl : x9.toInt = x9.toInt) (by decide : (3 : Int32).toInt = 3) k179
                  refine lv_iload_n hx hb dX4_fetchM_124 rfl (lv_at hl 2 rfl) ?_
                  refine lv_bipush (v := 6) hx hb dX4_fetchM_125 (by decide) ?_
                  refine lv_icmp_ne (tgt := 139) hx hb dX4_fetchM_127 (by decide) (fun k193 => ?_) (fun k193 => ?_)
                  · have g194 : x9.toInt ≠ 6 := gi_neq (rfl : x9.toInt = x9.toInt) (by decide : (6 : Int32).toInt = 6) k193
                    refine lv_iconst (v := 0) hx hb dX4_fetchM_139 (by decide) ?_
                    refine lv_istore (lv' := [(6, .int 0), (5, .int x159), (4, .int 0), (3, .int x9), (2, .int x6), (1, .int x2), (0, .ref t0)]) hx hb dX4_fetchM_140 hl (by decide) rfl (fun ls hl => ?_)
                    refine lv_aload_n hx hb dX4_fetchM_142 rfl (lv_at hl 6 rfl) ?_
                    refine lv_bipush (v := 16) hx hb dX4_fetchM_143 (by decide) ?_
                    refine lv_aload_n hx hb dX4_fetchM_145 rfl (lv_at hl 6 rfl) ?_
                    refine g_get hx hb hg hown hK hP 0 rfl rfl inX4 2 (by decide) q556 rfl dX4_fetchM_146 ?_
                    refine lv_iload hx hb dX4_fetchM_149 (lv_at hl 0 rfl) ?_
                    refine lv_if_eq (tgt := 158) hx hb dX4_fetchM_151 (by decide) (fun _ => ?_) (fun h => absurd (by decide) h)
                    refine lv_iconst (v := 3) hx hb dX4_fetchM_158 (by decide) ?_
                    refine va_iald hx hb hK hP 3 0 rfl rfl (by unfold vp_in; decide) dX4_fetchM_159 ?_
                    refine lv_topi (fun x195 e196 => ?_)
                    refine lv_imul hx hb dX4_fetchM_160 ?_
                    have g197 := g_i32 x195
                    refine lv_topi (fun x198 e199 => ?_)
                    refine lv_iload hx hb dX4_fetchM_161 (lv_at hl 1 rfl) ?_
                    refine lv_ldc hx hb hown (hg _ q1400) dX4_fetchM_163 ?_
                    refine lv_iand hx hb dX4_fetchM_165 ?_
                    refine lv_topi (fun x200 e201 => ?_)
                    have g202 : 0 ≤ x200.toInt ∧ x200.toInt ≤ 65535 := g_msk e201 16 (by decide) (by decide) (by decide)
                    refine lv_iadd hx hb dX4_fetchM_166 ?_
                    have g203 := g_i32 x198
                    refine lv_topi (fun x204 e205 => ?_)
                    refine g_put (w' := [(t0, .inr (4, [.ref c0, .ref c1, .ref c2, .int x4, .int i1, .int i2, .int i3, .int i4, .int i5, .int i6, .ref c3, .int x15, .int (-1), .int x204])), (c0, .inl (dA 0, 4096, .inl m0)), (c1, .inl (dA 0, 8, .inl m1)), (c2, .inl (dA 0, 4, .inl m2)), (c3, .inl (dA 0, 30, .inl m3))]) hx hb hg hown hK hP hD hS 0 rfl rfl inX4 tyX4_ok nmX4 13 (by decide) q576 rfl rfl rfl (Nat.le_of_ble_eq_true rfl) rfl dX4_fetchM_167 (fun H locs hP hD hS => ?_)
                    exact g_vret hx hb hr hlocks hK (x4, x15, (-1), x204) hP hD hS ⟨(show 0 ≤ x15.toInt ∧ x15.toInt ≤ 7 from by omega), (show -1 ≤ ((-1 : Int32)).toInt ∧ ((-1 : Int32)).toInt ≤ 7 from by decide)⟩ (Nat.le_of_ble_eq_true rfl) (Nat.le_of_ble_eq_true rfl) dX4_fetchM_170
                  · have g206 : x9.toInt = 6 := gi_eq (rfl : x9.toInt = x9.toInt) (by decide : (6 : Int32).toInt = 6) k193
                    refine lv_iload hx hb dX4_fetchM_130 (lv_at hl 1 rfl) ?_
                    refine lv_if_ne (tgt := 139) hx hb dX4_fetchM_132 (by decide) (fun h => absurd (by decide) h) (fun _ => ?_)
                    refine lv_iconst (v := 1) hx hb dX4_fetchM_135 (by decide) ?_
                    refine lv_goto (tgt := 140) hx hb dX4_fetchM_136 (by decide) ?_
                    refine lv_istore (lv' := [(6, .int 1), (5, .int x159), (4, .int 0), (3, .int x9), (2, .int x6), (1, .int x2), (0, .ref t0)]) hx hb dX4_fetchM_140 hl (by decide) rfl (fun ls hl => ?_)
                    refine lv_aload_n hx hb dX4_fetchM_142 rfl (lv_at hl 6 rfl) ?_
                    refine lv_bipush (v := 16) hx hb dX4_fetchM_143 (by decide) ?_
                    refine lv_aload_n hx hb dX4_fetchM_145 rfl (lv_at hl 6 rfl) ?_
                    refine g_get hx hb hg hown hK hP 0 rfl rfl inX4 2 (by decide) q556 rfl dX4_fetchM_146 ?_
                    refine lv_iload hx hb dX4_fetchM_149 (lv_at hl 0 rfl) ?_
                    refine lv_if_eq (tgt := 158) hx hb dX4_fetchM_151 (by decide) (fun h => absurd h (by decide)) (fun _ => ?_)
                    refine lv_iconst (v := 2) hx hb dX4_fetchM_154 (by decide) ?_
                    refine lv_goto (tgt := 159) hx hb dX4_fetchM_155 (by decide) ?_
                    refine va_iald hx hb hK hP 3 0 rfl rfl (by unfold vp_in; decide) dX4_fetchM_159 ?_
                    refine lv_topi (fun x207 e208 => ?_)
                    refine lv_imul hx hb dX4_fetchM_160 ?_
                    have g209 := g_i32 x207
                    refine lv_topi (fun x210 e211 => ?_)
                    refine lv_iload hx hb dX4_fetchM_161 (lv_at hl 1 rfl) ?_
                    refine lv_ldc hx hb hown (hg _ q1400) dX4_fetchM_163 ?_
                    refine lv_iand hx hb dX4_fetchM_165 ?_
                    refine lv_topi (fun x212 e213 => ?_)
                    have g214 : 0 ≤ x212.toInt ∧ x212.toInt ≤ 65535 := g_msk e213 16 (by decide) (by decide) (by decide)
                    refine lv_iadd hx hb dX4_fetchM_166 ?_
                    have g215 := g_i32 x210
                    refine lv_topi (fun x216 e217 => ?_)
                    refine g_put (w' := [(t0, .inr (4, [.ref c0, .ref c1, .ref c2, .int x4, .int i1, .int i2, .int i3, .int i4, .int i5, .int i6, .ref c3, .int x15, .int (-1), .int x216])), (c0, .inl (dA 0, 4096, .inl m0)), (c1, .inl (dA 0, 8, .inl m1)), (c2, .inl (dA 0, 4, .inl m2)), (c3, .inl (dA 0, 30, .inl m3))]) hx hb hg hown hK hP hD hS 0 rfl rfl inX4 tyX4_ok nmX4 13 (by decide) q576 rfl rfl rfl (Nat.le_of_ble_eq_true rfl) rfl dX4_fetchM_167 (fun H locs hP hD hS => ?_)
                    exact g_vret hx hb hr hlocks hK (x4, x15, (-1), x216) hP hD hS ⟨(show 0 ≤ x15.toInt ∧ x15.toInt ≤ 7 from by omega), (show -1 ≤ ((-1 : Int32)).toInt ∧ ((-1 : Int32)).toInt ≤ 7 from by decide)⟩ (Nat.le_of_ble_eq_true rfl) (Nat.le_of_ble_eq_true rfl) dX4_fetchM_170
            · have g218 : x6.toInt = 1 := gi_eq (rfl : x6.toInt = x6.toInt) (by decide : (1 : Int32).toInt = 1) k163
              exfalso; omega
          · have g219 : x6.toInt = 2 := gi_eq (rfl : x6.toInt = x6.toInt) (by decide : (2 : Int32).toInt = 2) k161
            exfalso; omega
        · have g220 : x9.toInt = 6 := gi_eq (rfl : x9.toInt = x9.toInt) (by decide : (6 : Int32).toInt = 6) k156
          refine lv_iconst (v := 1) hx hb dX4_fetchM_55 (by decide) ?_
          refine lv_goto (tgt := 60) hx hb dX4_fetchM_56 (by decide) ?_
          refine lv_istore (lv' := [(4, .int 1), (3, .int x9), (2, .int x6), (1, .int x2), (0, .ref t0)]) hx hb dX4_fetchM_60 hl (by decide) rfl (fun ls hl => ?_)
          refine lv_iload hx hb dX4_fetchM_62 (lv_at hl 0 rfl) ?_
          refine lv_if_eq (tgt := 71) hx hb dX4_fetchM_64 (by decide) (fun h => absurd h (by decide)) (fun _ => ?_)
          refine lv_iconst (v := 0) hx hb dX4_fetchM_67 (by decide) ?_
          refine lv_goto (tgt := 76) hx hb dX4_fetchM_68 (by decide) ?_
          refine lv_istore (lv' := [(5, .int 0), (4, .int 1), (3, .int x9), (2, .int x6), (1, .int x2), (0, .ref t0)]) hx hb dX4_fetchM_76 hl (by decide) rfl (fun ls hl => ?_)
          refine lv_iload hx hb dX4_fetchM_78 (lv_at hl 1 rfl) ?_
          refine lv_if_ne (tgt := 88) hx hb dX4_fetchM_80 (by decide) (fun _ => ?_) (fun h => absurd h (by decide))
          refine lv_iload hx hb dX4_fetchM_88 (lv_at hl 0 rfl) ?_
          refine lv_aload_n hx hb dX4_fetchM_90 rfl (lv_at hl 5 rfl) ?_
          refine g_Vi (n := 0) (As := []) (rest := [.int 0]) (wr := []) hx hb hml hg hown hK hP hD hS hA (s_X4_fetchWord l D dA t0 c0 c1 c2 x4 i1 i2 i3 i4 i5 i6 c3 x15 (-1) i9 m0 m1 m2 m3 (by omega) (by omega) (by omega) (by decide) p4 _) [0, 1, 2, 3, 4] [] rfl (by decide) rfl (by decide) (by decide) 0 rfl rfl q1431 q159 q1428 q1430 q59 (by decide +kernel) ⟨(Nat.le_of_ble_eq_true rfl), (Nat.le_of_ble_eq_true rfl)⟩ rfl hl.1 rfl (Nat.le_of_ble_eq_true rfl) dX4_fetchM_91 ⟨(Nat.le_of_ble_eq_true rfl), (Nat.le_of_ble_eq_true rfl)⟩ (fun x222 u221 H locs w223 hP hD hS => ?_)
          refine W.widen (k := 0) (n := 0) (Nat.le_of_ble_eq_true rfl) (Nat.le_of_ble_eq_true rfl) ?_
          obtain ⟨x224, rfl⟩ : ∃ z, z = u221 := ⟨_, rfl⟩
          have hP : va_P D vwC [(t0, .inr (4, [.ref c0, .ref c1, .ref c2, .int x224, .int i1, .int i2, .int i3, .int i4, .int i5, .int i6, .ref c3, .int x15, .int (-1), .int i9])), (c0, .inl (dA 0, 4096, .inl m0)), (c1, .inl (dA 0, 8, .inl m1)), (c2, .inl (dA 0, 4, .inl m2)), (c3, .inl (dA 0, 30, .inl m3))] H := hP
          have hD : va_D A [(t0, .inr (4, [.ref c0, .ref c1, .ref c2, .int x224, .int i1, .int i2, .int i3, .int i4, .int i5, .int i6, .ref c3, .int x15, .int (-1), .int i9])), (c0, .inl (dA 0, 4096, .inl m0)), (c1, .inl (dA 0, 8, .inl m1)), (c2, .inl (dA 0, 4, .inl m2)), (c3, .inl (dA 0, 30, .inl m3))] := hD
          refine lv_iadd hx hb dX4_fetchM_94 ?_
          have g225 := g_i32 x222
          refine lv_topi (fun x226 e227 => ?_)
          have g228 : x226.toInt = 0 + x222.toInt := g_add e227 (by decide) rfl (by omega) (by omega)
          refine lv_istore (lv' := [(5, .int x226), (4, .int 1), (3, .int x9), (2, .int x6), (1, .int x2), (0, .ref t0)]) hx hb dX4_fetchM_95 hl (by decide) rfl (fun ls hl => ?_)
          refine lv_goto (tgt := 114) hx hb dX4_fetchM_97 (by decide) ?_
          refine lv_iload_n hx hb dX4_fetchM_114 rfl (lv_at hl 2 rfl) ?_
          refine lv_iconst (v := 2) hx hb dX4_fetchM_115 (by decide) ?_
          refine lv_icmp_eq (tgt := 135) hx hb dX4_fetchM_116 (by decide) (fun k229 => ?_) (fun k229 => ?_)
          · have g230 : x9.toInt = 2 := gi_eq (rfl : x9.toInt = x9.toInt) (by decide : (2 : Int32).toInt = 2) k229
            exfalso; omega
          · have g231 : x9.toInt ≠ 2 := gi_neq (rfl : x9.toInt = x9.toInt) (by decide : (2 : Int32).toInt = 2) k229
            refine lv_iload_n hx hb dX4_fetchM_119 rfl (lv_at hl 2 rfl) ?_
            refine lv_iconst (v := 3) hx hb dX4_fetchM_120 (by decide) ?_
            refine lv_icmp_eq (tgt := 135) hx hb dX4_fetchM_121 (by decide) (fun k232 => ?_) (fun k232 => ?_)
            · have g233 : x9.toInt = 3 := gi_eq (rfl : x9.toInt = x9.toInt) (by decide : (3 : Int32).toInt = 3) k232
              exfalso; omega
            · have g234 : x9.toInt ≠ 3 := gi_neq (rfl : x9.toInt = x9.toInt) (by decide : (3 : Int32).toInt = 3) k232
              refine lv_iload_n hx hb dX4_fetchM_124 rfl (lv_at hl 2 rfl) ?_
              refine lv_bipush (v := 6) hx hb dX4_fetchM_125 (by decide) ?_
              refine lv_icmp_ne (tgt := 139) hx hb dX4_fetchM_127 (by decide) (fun k235 => ?_) (fun k235 => ?_)
              · have g236 : x9.toInt ≠ 6 := gi_neq (rfl : x9.toInt = x9.toInt) (by decide : (6 : Int32).toInt = 6) k235
                exfalso; omega
              · have g237 : x9.toInt = 6 := gi_eq (rfl : x9.toInt = x9.toInt) (by decide : (6 : Int32).toInt = 6) k235
                refine lv_iload hx hb dX4_fetchM_130 (lv_at hl 1 rfl) ?_
                refine lv_if_ne (tgt := 139) hx hb dX4_fetchM_132 (by decide) (fun _ => ?_) (fun h => absurd h (by decide))
                refine lv_iconst (v := 0) hx hb dX4_fetchM_139 (by decide) ?_
                refine lv_istore (lv' := [(6, .int 0), (5, .int x226), (4, .int 1), (3, .int x9), (2, .int x6), (1, .int x2), (0, .ref t0)]) hx hb dX4_fetchM_140 hl (by decide) rfl (fun ls hl => ?_)
                refine lv_aload_n hx hb dX4_fetchM_142 rfl (lv_at hl 6 rfl) ?_
                refine lv_bipush (v := 16) hx hb dX4_fetchM_143 (by decide) ?_
                refine lv_aload_n hx hb dX4_fetchM_145 rfl (lv_at hl 6 rfl) ?_
                refine g_get hx hb hg hown hK hP 0 rfl rfl inX4 2 (by decide) q556 rfl dX4_fetchM_146 ?_
                refine lv_iload hx hb dX4_fetchM_149 (lv_at hl 0 rfl) ?_
                refine lv_if_eq (tgt := 158) hx hb dX4_fetchM_151 (by decide) (fun _ => ?_) (fun h => absurd (by decide) h)
                refine lv_iconst (v := 3) hx hb dX4_fetchM_158 (by decide) ?_
                refine va_iald hx hb hK hP 3 0 rfl rfl (by unfold vp_in; decide) dX4_fetchM_159 ?_
                refine lv_topi (fun x238 e239 => ?_)
                refine lv_imul hx hb dX4_fetchM_160 ?_
                have g240 := g_i32 x238
                refine lv_topi (fun x241 e242 => ?_)
                refine lv_iload hx hb dX4_fetchM_161 (lv_at hl 1 rfl) ?_
                refine lv_ldc hx hb hown (hg _ q1400) dX4_fetchM_163 ?_
                refine lv_iand hx hb dX4_fetchM_165 ?_
                refine lv_topi (fun x243 e244 => ?_)
                have g245 : 0 ≤ x243.toInt ∧ x243.toInt ≤ 65535 := g_msk e244 16 (by decide) (by decide) (by decide)
                refine lv_iadd hx hb dX4_fetchM_166 ?_
                have g246 := g_i32 x241
                refine lv_topi (fun x247 e248 => ?_)
                refine g_put (w' := [(t0, .inr (4, [.ref c0, .ref c1, .ref c2, .int x224, .int i1, .int i2, .int i3, .int i4, .int i5, .int i6, .ref c3, .int x15, .int (-1), .int x247])), (c0, .inl (dA 0, 4096, .inl m0)), (c1, .inl (dA 0, 8, .inl m1)), (c2, .inl (dA 0, 4, .inl m2)), (c3, .inl (dA 0, 30, .inl m3))]) hx hb hg hown hK hP hD hS 0 rfl rfl inX4 tyX4_ok nmX4 13 (by decide) q576 rfl rfl rfl (Nat.le_of_ble_eq_true rfl) rfl dX4_fetchM_167 (fun H locs hP hD hS => ?_)
                exact g_vret hx hb hr hlocks hK (x224, x15, (-1), x247) hP hD hS ⟨(show 0 ≤ x15.toInt ∧ x15.toInt ≤ 7 from by omega), (show -1 ≤ ((-1 : Int32)).toInt ∧ ((-1 : Int32)).toInt ≤ 7 from by decide)⟩ (Nat.le_of_ble_eq_true rfl) (Nat.le_of_ble_eq_true rfl) dX4_fetchM_170
    · have g249 : x6.toInt = 3 := gi_eq (rfl : x6.toInt = x6.toInt) (by decide : (3 : Int32).toInt = 3) k20
      exfalso; omega
  · have g250 : x6.toInt = 3 := gi_eq (rfl : x6.toInt = x6.toInt) (by decide : (3 : Int32).toInt = 3) k18
    refine lv_iload_n hx hb dX4_fetchM_31 rfl (lv_at hl 0 rfl) ?_
    refine lv_goto (tgt := 36) hx hb dX4_fetchM_32 (by decide) ?_
    refine g_put (w' := [(t0, .inr (4, [.ref c0, .ref c1, .ref c2, .int x4, .int i1, .int i2, .int i3, .int i4, .int i5, .int i6, .ref c3, .int x15, .int x9, .int i9])), (c0, .inl (dA 0, 4096, .inl m0)), (c1, .inl (dA 0, 8, .inl m1)), (c2, .inl (dA 0, 4, .inl m2)), (c3, .inl (dA 0, 30, .inl m3))]) hx hb hg hown hK hP hD hS 0 rfl rfl inX4 tyX4_ok nmX4 12 (by decide) q575 rfl rfl rfl (Nat.le_of_ble_eq_true rfl) rfl dX4_fetchM_36 (fun H locs hP hD hS => ?_)
    refine lv_iload_n hx hb dX4_fetchM_39 rfl (lv_at hl 1 rfl) ?_
    refine lv_iconst (v := 3) hx hb dX4_fetchM_40 (by decide) ?_
    refine lv_icmp_ne (tgt := 45) hx hb dX4_fetchM_41 (by decide) (fun k251 => ?_) (fun k251 => ?_)
    · have g252 : x6.toInt ≠ 3 := gi_neq (rfl : x6.toInt = x6.toInt) (by decide : (3 : Int32).toInt = 3) k251
      exfalso; omega
    · have g253 : x6.toInt = 3 := gi_eq (rfl : x6.toInt = x6.toInt) (by decide : (3 : Int32).toInt = 3) k251
      exact g_vret hx hb hr hlocks hK (x4, x15, x9, i9) hP hD hS ⟨(show 0 ≤ x15.toInt ∧ x15.toInt ≤ 7 from by omega), (show -1 ≤ x9.toInt ∧ x9.toInt ≤ 7 from by omega)⟩ (Nat.le_of_ble_eq_true rfl) (Nat.le_of_ble_eq_true rfl) dX4_fetchM_44
