theorem q1617 : Cond.fieldLink RX11 266 "SegmentBenchModel" "length" "I" ∈ gw := gw_in (i := 1617) (by decide +kernel) rfl
theorem q1618 : Cond.fieldLink RX11 13 "SegmentBenchModel" "kind" "I" ∈ gw := gw_in (i := 1618) (by decide +kernel) rfl
theorem q1619 : Cond.fieldLink RX11 17 "SegmentBenchModel" "placeOf" "I" ∈ gw := gw_in (i := 1619) (by decide +kernel) rfl
theorem q1659 : Cond.fieldLink RX11 178 "SegmentBenchModel" "mSegments" "[I" ∈ gw := gw_in (i := 1659) (by decide +kernel) rfl
theorem q1665 : Cond.fieldLink RX11 196 "SegmentBenchModel" "mFixups" "[I" ∈ gw := gw_in (i := 1665) (by decide +kernel) rfl
theorem q1679 : Cond.fieldLink RX11 495 "SegmentBenchModel" "relocations" "I" ∈ gw := gw_in (i := 1679) (by decide +kernel) rfl
theorem dX11_count_0 : decode cX11_count 0 = .ok (.aload_n 0, 1) := by decide +kernel
theorem dX11_count_1 : decode cX11_count 1 = .ok (.iconst 0, 1) := by decide +kernel
theorem dX11_count_2 : decode cX11_count 2 = .ok (.putfield 263, 3) := by decide +kernel
theorem dX11_count_5 : decode cX11_count 5 = .ok (.iload_n 1, 1) := by decide +kernel
theorem dX11_count_6 : decode cX11_count 6 = .ok (.ifCond .lt 9, 3) := by decide +kernel
theorem dX11_count_15 : decode cX11_count 15 = .ok (.aload_n 0, 1) := by decide +kernel
theorem dX11_count_16 : decode cX11_count 16 = .ok (.iconst 1, 1) := by decide +kernel
theorem dX11_count_17 : decode cX11_count 17 = .ok (.invokevirtual 448, 3) := by decide +kernel
theorem dX11_count_20 : decode cX11_count 20 = .ok (.ireturn, 1) := by decide +kernel
theorem dX11_count_9 : decode cX11_count 9 = .ok (.iload_n 1, 1) := by decide +kernel
theorem dX11_count_10 : decode cX11_count 10 = .ok (.bipush 13, 2) := by decide +kernel
theorem dX11_count_12 : decode cX11_count 12 = .ok (.if_icmp .le 9, 3) := by decide +kernel
theorem dX11_count_21 : decode cX11_count 21 = .ok (.iload_n 1, 1) := by decide +kernel
theorem dX11_count_22 : decode cX11_count 22 = .ok (.bipush 11, 2) := by decide +kernel
theorem dX11_count_24 : decode cX11_count 24 = .ok (.if_icmp .lt 29, 3) := by decide +kernel
theorem dX11_count_53 : decode cX11_count 53 = .ok (.iload_n 1, 1) := by decide +kernel
theorem dX11_count_54 : decode cX11_count 54 = .ok (.bipush 8, 2) := by decide +kernel
theorem dX11_count_56 : decode cX11_count 56 = .ok (.if_icmp .lt 29, 3) := by decide +kernel
theorem dX11_count_85 : decode cX11_count 85 = .ok (.iload_n 1, 1) := by decide +kernel
theorem dX11_count_86 : decode cX11_count 86 = .ok (.tableswitch 77 0 6 #[42, 47, 52, 57, 62, 67, 72], 42) := by decide +kernel
theorem dX11_count_128 : decode cX11_count 128 = .ok (.aload_n 0, 1) := by decide +kernel
theorem dX11_count_129 : decode cX11_count 129 = .ok (.getfield 266, 3) := by decide +kernel
theorem dX11_count_132 : decode cX11_count 132 = .ok (.ireturn, 1) := by decide +kernel
theorem dX11_count_133 : decode cX11_count 133 = .ok (.aload_n 0, 1) := by decide +kernel
theorem dX11_count_134 : decode cX11_count 134 = .ok (.getfield 13, 3) := by decide +kernel
theorem dX11_count_137 : decode cX11_count 137 = .ok (.ireturn, 1) := by decide +kernel
theorem dX11_count_138 : decode cX11_count 138 = .ok (.aload_n 0, 1) := by decide +kernel
theorem dX11_count_139 : decode cX11_count 139 = .ok (.getfield 17, 3) := by decide +kernel
theorem dX11_count_142 : decode cX11_count 142 = .ok (.ireturn, 1) := by decide +kernel
theorem dX11_count_143 : decode cX11_count 143 = .ok (.aload_n 0, 1) := by decide +kernel
theorem dX11_count_144 : decode cX11_count 144 = .ok (.getfield 512, 3) := by decide +kernel
theorem dX11_count_147 : decode cX11_count 147 = .ok (.ireturn, 1) := by decide +kernel
theorem dX11_count_148 : decode cX11_count 148 = .ok (.aload_n 0, 1) := by decide +kernel
theorem dX11_count_149 : decode cX11_count 149 = .ok (.getfield 495, 3) := by decide +kernel
theorem dX11_count_152 : decode cX11_count 152 = .ok (.ireturn, 1) := by decide +kernel
theorem dX11_count_153 : decode cX11_count 153 = .ok (.aload_n 0, 1) := by decide +kernel
theorem dX11_count_154 : decode cX11_count 154 = .ok (.getfield 527, 3) := by decide +kernel
theorem dX11_count_157 : decode cX11_count 157 = .ok (.ireturn, 1) := by decide +kernel
theorem dX11_count_158 : decode cX11_count 158 = .ok (.aload_n 0, 1) := by decide +kernel
theorem dX11_count_159 : decode cX11_count 159 = .ok (.getfield 530, 3) := by decide +kernel
theorem dX11_count_162 : decode cX11_count 162 = .ok (.ireturn, 1) := by decide +kernel
theorem dX11_count_163 : decode cX11_count 163 = .ok (.aload_n 0, 1) := by decide +kernel
theorem dX11_count_164 : decode cX11_count 164 = .ok (.getfield 256, 3) := by decide +kernel
theorem dX11_count_167 : decode cX11_count 167 = .ok (.ifCond .eq 7, 3) := by decide +kernel
theorem dX11_count_174 : decode cX11_count 174 = .ok (.iconst 0, 1) := by decide +kernel
theorem dX11_count_175 : decode cX11_count 175 = .ok (.ireturn, 1) := by decide +kernel
theorem dX11_count_170 : decode cX11_count 170 = .ok (.iconst 1, 1) := by decide +kernel
theorem dX11_count_171 : decode cX11_count 171 = .ok (.goto 4, 3) := by decide +kernel
theorem dX11_count_59 : decode cX11_count 59 = .ok (.aload_n 0, 1) := by decide +kernel
theorem dX11_count_60 : decode cX11_count 60 = .ok (.getfield 175, 3) := by decide +kernel
theorem dX11_count_63 : decode cX11_count 63 = .ok (.iload_n 1, 1) := by decide +kernel
theorem dX11_count_64 : decode cX11_count 64 = .ok (.bipush 8, 2) := by decide +kernel
theorem dX11_count_66 : decode cX11_count 66 = .ok (.isub, 1) := by decide +kernel
theorem dX11_count_67 : decode cX11_count 67 = .ok (.baload, 1) := by decide +kernel
theorem dX11_count_68 : decode cX11_count 68 = .ok (.ifCond .eq 15, 3) := by decide +kernel
theorem dX11_count_83 : decode cX11_count 83 = .ok (.iconst 0, 1) := by decide +kernel
theorem dX11_count_84 : decode cX11_count 84 = .ok (.ireturn, 1) := by decide +kernel
theorem dX11_count_71 : decode cX11_count 71 = .ok (.aload_n 0, 1) := by decide +kernel
theorem dX11_count_72 : decode cX11_count 72 = .ok (.getfield 178, 3) := by decide +kernel
theorem dX11_count_75 : decode cX11_count 75 = .ok (.iload_n 1, 1) := by decide +kernel
theorem dX11_count_76 : decode cX11_count 76 = .ok (.bipush 8, 2) := by decide +kernel
theorem dX11_count_78 : decode cX11_count 78 = .ok (.isub, 1) := by decide +kernel
theorem dX11_count_79 : decode cX11_count 79 = .ok (.iaload, 1) := by decide +kernel
theorem dX11_count_80 : decode cX11_count 80 = .ok (.goto 4, 3) := by decide +kernel
theorem dX11_count_27 : decode cX11_count 27 = .ok (.aload_n 0, 1) := by decide +kernel
theorem dX11_count_28 : decode cX11_count 28 = .ok (.getfield 175, 3) := by decide +kernel
theorem dX11_count_31 : decode cX11_count 31 = .ok (.iload_n 1, 1) := by decide +kernel
theorem dX11_count_32 : decode cX11_count 32 = .ok (.bipush 11, 2) := by decide +kernel
theorem dX11_count_34 : decode cX11_count 34 = .ok (.isub, 1) := by decide +kernel
theorem dX11_count_35 : decode cX11_count 35 = .ok (.baload, 1) := by decide +kernel
theorem dX11_count_36 : decode cX11_count 36 = .ok (.ifCond .eq 15, 3) := by decide +kernel
theorem dX11_count_51 : decode cX11_count 51 = .ok (.iconst 0, 1) := by decide +kernel
theorem dX11_count_52 : decode cX11_count 52 = .ok (.ireturn, 1) := by decide +kernel
theorem dX11_count_39 : decode cX11_count 39 = .ok (.aload_n 0, 1) := by decide +kernel
theorem dX11_count_40 : decode cX11_count 40 = .ok (.getfield 196, 3) := by decide +kernel
theorem dX11_count_43 : decode cX11_count 43 = .ok (.iload_n 1, 1) := by decide +kernel
theorem dX11_count_44 : decode cX11_count 44 = .ok (.bipush 11, 2) := by decide +kernel
theorem dX11_count_46 : decode cX11_count 46 = .ok (.isub, 1) := by decide +kernel
theorem dX11_count_47 : decode cX11_count 47 = .ok (.iaload, 1) := by decide +kernel
theorem dX11_count_48 : decode cX11_count 48 = .ok (.goto 4, 3) := by decide +kernel
set_option maxHeartbeats 4000000 in
set_option maxRecDepth 100000 in
theorem s_X11_count (l : Launch) (D : va_G) (dA : Nat → ClassId) (t0 : Nat) (a0 : Int32) (i0 : Int32) (c1 : Nat) (i2 : Int32) (i3 : Int32) (i4 : Int32) (i5 : Int32) (i6 : Int32) (i7 : Int32) (i8 : Int64) (i9 : Int32) (i10 : Int32) (c11 : Nat) (c12 : Nat) (c13 : Nat) (c14 : Nat) (c15 : Nat) (c16 : Nat) (i17 : Int32) (i18 : Int32) (c19 : Nat) (c20 : Nat) (c21 : Nat) (c22 : Nat) (i23 : Int32) (c24 : Nat) (c25 : Nat) (c26 : Nat) (c27 : Nat) (c28 : Nat) (c29 : Nat) (c30 : Nat) (i31 : Int32) (i32 : Int32) (i33 : Int32) (i34 : Int32) (c35 : Nat) (c36 : Nat) (i37 : Int32) (i38 : Int32) (i39 : Int32) (i40 : Int32) (i41 : Int32) (i42 : Int32) (c43 : Nat) (c44 : Nat) (c45 : Nat) (c46 : Nat) (c47 : Nat) (c48 : Nat) (c49 : Nat) (c50 : Nat) (c51 : Nat) (c52 : Nat) (c53 : Nat) (c54 : Nat) (c55 : Nat) (c56 : Nat) (c57 : Nat) (c58 : Nat) (c59 : Nat) (i60 : Int32) (c61 : Nat) (i62 : Int32) (c63 : Nat) (i64 : Int32) (i65 : Int32) (i66 : Int32) (c67 : Nat) (c68 : Nat) (c69 : Nat) (c70 : Nat) (c71 : Nat) (c72 : Nat) (i73 : Int32) (c74 : Nat) (c75 : Nat) (i76 : Int32) (i77 : Int32) (i78 : Int32) (c79 : Nat) (i80 : Int32) (i81 : Int32) (i82 : Int32) (i83 : Int32) (i84 : Int32) (m43 : Nat → Int32) (m50 : Nat → Int32) (m44 : Nat → Int32) (p0 : 0 ≤ i33.toInt ∧ i33.toInt ≤ 1) (p1 : 0 ≤ i60.toInt ∧ i60.toInt ≤ 1) (p2 : 0 ≤ i62.toInt ∧ i62.toInt ≤ 1200) (p3 : 0 ≤ i76.toInt ∧ i76.toInt ≤ 1) (p4 : 0 ≤ i78.toInt ∧ i78.toInt ≤ 1000000) (p5 : 0 ≤ i81.toInt ∧ i81.toInt ≤ 255) (p6 : 0 ≤ i82.toInt ∧ i82.toInt ≤ 7) (p7 : 0 ≤ i83.toInt ∧ i83.toInt ≤ 15) (p8 : ∀ j : Nat, 0 ≤ (m43 j).toInt ∧ (m43 j).toInt ≤ 1) (sz : Nat) : Met l yX11_count (gws yX11_count cX11_count 2 (some .int)) (gR 2 0 0) (gPre D dA [.ref t0, .int a0] [(t0, .inr (11, [.int i0, .ref c1, .int i2, .int i3, .int i4, .int i5, .int i6, .int i7, .long i8, .int i9, .int i10, .ref c11, .ref c12, .ref c13, .ref c14, .ref c15, .ref c16, .int i17, .int i18, .ref c19, .ref c20, .ref c21, .ref c22, .int i23, .ref c24, .ref c25, .ref c26, .ref c27, .ref c28, .ref c29, .ref c30, .int i31, .int i32, .int i33, .int i34, .ref c35, .ref c36, .int i37, .int i38, .int i39, .int i40, .int i41, .int i42, .ref c43, .ref c44, .ref c45, .ref c46, .ref c47, .ref c48, .ref c49, .ref c50, .ref c51, .ref c52, .ref c53, .ref c54, .ref c55, .ref c56, .ref c57, .ref c58, .ref c59, .int i60, .ref c61, .int i62, .ref c63, .int i64, .int i65, .int i66, .ref c67, .ref c68, .ref c69, .ref c70, .ref c71, .ref c72, .int i73, .ref c74, .ref c75, .int i76, .int i77, .int i78, .ref c79, .int i80, .int i81, .int i82, .int i83, .int i84])), (c43, .inl (dA 3, 3, .inl m43)), (c50, .inl (dA 0, 3, .inl m50)), (c44, .inl (dA 0, 3, .inl m44))] sz) (va_Qi (fun (r : Int32) (u : Int32) => True) (gAt D dA (va_A [(t0, .inr (11, [.int i0, .ref c1, .int i2, .int i3, .int i4, .int i5, .int i6, .int i7, .long i8, .int i9, .int i10, .ref c11, .ref c12, .ref c13, .ref c14, .ref c15, .ref c16, .int i17, .int i18, .ref c19, .ref c20, .ref c21, .ref c22, .int i23, .ref c24, .ref c25, .ref c26, .ref c27, .ref c28, .ref c29, .ref c30, .int i31, .int i32, .int i33, .int i34, .ref c35, .ref c36, .int i37, .int i38, .int i39, .int i40, .int i41, .int i42, .ref c43, .ref c44, .ref c45, .ref c46, .ref c47, .ref c48, .ref c49, .ref c50, .ref c51, .ref c52, .ref c53, .ref c54, .ref c55, .ref c56, .ref c57, .ref c58, .ref c59, .int i60, .ref c61, .int i62, .ref c63, .int i64, .int i65, .int i66, .ref c67, .ref c68, .ref c69, .ref c70, .ref c71, .ref c72, .int i73, .ref c74, .ref c75, .int i76, .int i77, .int i78, .ref c79, .int i80, .int i81, .int i82, .int i83, .int i84])), (c43, .inl (dA 3, 3, .inl m43)), (c50, .inl (dA 0, 3, .inl m50)), (c44, .inl (dA 0, 3, .inl m44))] sz) (fun u : Int32 => [(t0, .inr (11, [.int u, .ref c1, .int i2, .int i3, .int i4, .int i5, .int i6, .int i7, .long i8, .int i9, .int i10, .ref c11, .ref c12, .ref c13, .ref c14, .ref c15, .ref c16, .int i17, .int i18, .ref c19, .ref c20, .ref c21, .ref c22, .int i23, .ref c24, .ref c25, .ref c26, .ref c27, .ref c28, .ref c29, .ref c30, .int i31, .int i32, .int i33, .int i34, .ref c35, .ref c36, .int i37, .int i38, .int i39, .int i40, .int i41, .int i42, .ref c43, .ref c44, .ref c45, .ref c46, .ref c47, .ref c48, .ref c49, .ref c50, .ref c51, .ref c52, .ref c53, .ref c54, .ref c55, .ref c56, .ref c57, .ref c58, .ref c59, .int i60, .ref c61, .int i62, .ref c63, .int i64, .int i65, .int i66, .ref c67, .ref c68, .ref c69, .ref c70, .ref c71, .ref c72, .int i73, .ref c74, .ref c75, .int i76, .int i77, .int i78, .ref c79, .int i80, .int i81, .int i82, .int i83, .int i84])), (c43, .inl (dA 3, 3, .inl m43)), (c50, .inl (dA 0, 3, .inl m50)), (c44, .inl (dA 0, 3, .inl m44))])) (va_A [(t0, .inr (11, [.int i0, .ref c1, .int i2, .int i3, .int i4, .int i5, .int i6, .int i7, .long i8, .int i9, .int i10, .ref c11, .ref c12, .ref c13, .ref c14, .ref c15, .ref c16, .int i17, .int i18, .ref c19, .ref c20, .ref c21, .ref c22, .int i23, .ref c24, .ref c25, .ref c26, .ref c27, .ref c28, .ref c29, .ref c30, .int i31, .int i32, .int i33, .int i34, .ref c35, .ref c36, .int i37, .int i38, .int i39, .int i40, .int i41, .int i42, .ref c43, .ref c44, .ref c45, .ref c46, .ref c47, .ref c48, .ref c49, .ref c50, .ref c51, .ref c52, .ref c53, .ref c54, .ref c55, .ref c56, .ref c57, .ref c58, .ref c59, .int i60, .ref c61, .int i62, .ref c63, .int i64, .int i65, .int i66, .ref c67, .ref c68, .ref c69, .ref c70, .ref c71, .ref c72, .int i73, .ref c74, .ref c75, .int i76, .int i77, .int i78, .ref c79, .int i80, .int i81, .int i82, .int i83, .int i84])), (c43, .inl (dA 3, 3, .inl m43)), (c50, .inl (dA 0, 3, .inl m50)), (c44, .inl (dA 0, 3, .inl m44))] sz)) 0 0 (va_A [(t0, .inr (11, [.int i0, .ref c1, .int i2, .int i3, .int i4, .int i5, .int i6, .int i7, .long i8, .int i9, .int i10, .ref c11, .ref c12, .ref c13, .ref c14, .ref c15, .ref c16, .int i17, .int i18, .ref c19, .ref c20, .ref c21, .ref c22, .int i23, .ref c24, .ref c25, .ref c26, .ref c27, .ref c28, .ref c29, .ref c30, .int i31, .int i32, .int i33, .int i34, .ref c35, .ref c36, .int i37, .int i38, .int i39, .int i40, .int i41, .int i42, .ref c43, .ref c44, .ref c45, .ref c46, .ref c47, .ref c48, .ref c49, .ref c50, .ref c51, .ref c52, .ref c53, .ref c54, .ref c55, .ref c56, .ref c57, .ref c58, .ref c59, .int i60, .ref c61, .int i62, .ref c63, .int i64, .int i65, .int i66, .ref c67, .ref c68, .ref c69, .ref c70, .ref c71, .ref c72, .int i73, .ref c74, .ref c75, .int i76, .int i77, .int i78, .ref c79, .int i80, .int i81, .int i82, .int i83, .int i84])), (c43, .inl (dA 3, 3, .inl m43)), (c50, .inl (dA 0, 3, .inl m50)), (c44, .inl (dA 0, 3, .inl m44))] sz) := by
  refine Met.ofW (cc := cX11_count) (maxL := 2) (ret := (some .int)) (by decide) rfl ?_
  intro p e s m args below meth c s₁ B hml hv
  obtain ⟨rfl, hsz, hP, hK, hD0⟩ := hv
  have hx := B.exec
  have hb := B.bytes
  have hr := B.returns
  have hts := atoms_spec (ws := gws yX11_count cX11_count 2 (some .int)) B.pre
  have hg : ∀ w ∈ gw, w.before _ s = true := fun w h => hts w (List.mem_cons_of_mem _ h)
  have hown : s.vm.findClass RX11 = some m.cls := findClass_of_methodNamed B.named
  have hlocks := B.notSynchronized
  subst hsz
  have hD := hD0.self (sz := s.heap.size)
  generalize hAe : va_A [(t0, .inr (11, [.int i0, .ref c1, .int i2, .int i3, .int i4, .int i5, .int i6, .int i7, .long i8, .int i9, .int i10, .ref c11, .ref c12, .ref c13, .ref c14, .ref c15, .ref c16, .int i17, .int i18, .ref c19, .ref c20, .ref c21, .ref c22, .int i23, .ref c24, .ref c25, .ref c26, .ref c27, .ref c28, .ref c29, .ref c30, .int i31, .int i32, .int i33, .int i34, .ref c35, .ref c36, .int i37, .int i38, .int i39, .int i40, .int i41, .int i42, .ref c43, .ref c44, .ref c45, .ref c46, .ref c47, .ref c48, .ref c49, .ref c50, .ref c51, .ref c52, .ref c53, .ref c54, .ref c55, .ref c56, .ref c57, .ref c58, .ref c59, .int i60, .ref c61, .int i62, .ref c63, .int i64, .int i65, .int i66, .ref c67, .ref c68, .ref c69, .ref c70, .ref c71, .ref c72, .int i73, .ref c74, .ref c75, .int i76, .int i77, .int i78, .ref c79, .int i80, .int i81, .int i82, .int i83, .int i84])), (c43, .inl (dA 3, 3, .inl m43)), (c50, .inl (dA 0, 3, .inl m50)), (c44, .inl (dA 0, 3, .inl m44))] s.heap.size = A at hD ⊢
  have hA : ∀ q : Nat, s.heap.size ≤ q → A q := fun q h => by rw [← hAe]; exact Or.inr h
  have hS : va_S A s.heap s.heap [] := va_S.rf
  have hP : va_P D vwC [(t0, .inr (11, [.int i0, .ref c1, .int i2, .int i3, .int i4, .int i5, .int i6, .int i7, .long i8, .int i9, .int i10, .ref c11, .ref c12, .ref c13, .ref c14, .ref c15, .ref c16, .int i17, .int i18, .ref c19, .ref c20, .ref c21, .ref c22, .int i23, .ref c24, .ref c25, .ref c26, .ref c27, .ref c28, .ref c29, .ref c30, .int i31, .int i32, .int i33, .int i34, .ref c35, .ref c36, .int i37, .int i38, .int i39, .int i40, .int i41, .int i42, .ref c43, .ref c44, .ref c45, .ref c46, .ref c47, .ref c48, .ref c49, .ref c50, .ref c51, .ref c52, .ref c53, .ref c54, .ref c55, .ref c56, .ref c57, .ref c58, .ref c59, .int i60, .ref c61, .int i62, .ref c63, .int i64, .int i65, .int i66, .ref c67, .ref c68, .ref c69, .ref c70, .ref c71, .ref c72, .int i73, .ref c74, .ref c75, .int i76, .int i77, .int i78, .ref c79, .int i80, .int i81, .int i82, .int i83, .int i84])), (c43, .inl (dA 3, 3, .inl m43)), (c50, .inl (dA 0, 3, .inl m50)), (c44, .inl (dA 0, 3, .inl m44))] s.heap := hP
  have hl := lv_entry ([.ref t0, .int a0]) (n := 2) (Nat.le_of_ble_eq_true rfl)
  rw [lg_entry_eq]
  generalize (lg_sl ([.ref t0, .int a0]) ++ List.replicate (2 - (lg_sl ([.ref t0, .int a0])).length) Slot.unset).toArray = ls at hl ⊢
  have hl : lv_has ls 2 [(0, .ref t0), (1, .int a0)] := hl
  refine lv_aload_n hx hb dX11_count_0 rfl (lv_at hl 0 rfl) ?_
  refine lv_iconst (v := 0) hx hb dX11_count_1 (by decide) ?_
  refine g_put (w' := [(t0, .inr (11, [.int 0, .ref c1, .int i2, .int i3, .int i4, .int i5, .int i6, .int i7, .long i8, .int i9, .int i10, .ref c11, .ref c12, .ref c13, .ref c14, .ref c15, .ref c16, .int i17, .int i18, .ref c19, .ref c20, .ref c21, .ref c22, .int i23, .ref c24, .ref c25, .ref c26, .ref c27, .ref c28, .ref c29, .ref c30, .int i31, .int i32, .int i33, .int i34, .ref c35, .ref c36, .int i37, .int i38, .int i39, .int i40, .int i41, .int i42, .ref c43, .ref c44, .ref c45, .ref c46, .ref c47, .ref c48, .ref c49, .ref c50, .ref c51, .ref c52, .ref c53, .ref c54, .ref c55, .ref c56, .ref c57, .ref c58, .ref c59, .int i60, .ref c61, .int i62, .ref c63, .int i64, .int i65, .int i66, .ref c67, .ref c68, .ref c69, .ref c70, .ref c71, .ref c72, .int i73, .ref c74, .ref c75, .int i76, .int i77, .int i78, .ref c79, .int i80, .int i81, .int i82, .int i83, .int i84])), (c43, .inl (dA 3, 3, .inl m43)), (c50, .inl (dA 0, 3, .inl m50)), (c44, .inl (dA 0, 3, .inl m44))]) hx hb hg hown hK hP hD hS 0 rfl rfl inX11 tyX11_ok nmX11 0 (by decide) q1615 rfl rfl rfl (Nat.le_of_ble_eq_true rfl) rfl dX11_count_2 (fun H locs hP hD hS => ?_)
  refine lv_iload_n hx hb dX11_count_5 rfl (lv_at hl 1 rfl) ?_
  refine lv_if_lt (tgt := 15) hx hb dX11_count_6 (by decide) (fun k1 => ?_) (fun k1 => ?_)
  · have g2 : a0.toInt < 0 := gi_lt (rfl : a0.toInt = a0.toInt) (by decide : (0 : Int32).toInt = 0) k1
    refine lv_aload_n hx hb dX11_count_15 rfl (lv_at hl 0 rfl) ?_
    refine lv_iconst (v := 1) hx hb dX11_count_16 (by decide) ?_
    refine g_Vi (n := 1) (As := [.int 1]) (rest := []) (wr := [(c43, .inl (dA 3, 3, .inl m43)), (c50, .inl (dA 0, 3, .inl m50)), (c44, .inl (dA 0, 3, .inl m44))]) hx hb hml hg hown hK hP hD hS hA (s_X11_raise l D dA t0 (1) (0) c1 i2 i3 i4 i5 i6 i7 i8 i9 i10 c11 c12 c13 c14 c15 c16 i17 i18 c19 c20 c21 c22 i23 c24 c25 c26 c27 c28 c29 c30 i31 i32 i33 i34 c35 c36 i37 i38 i39 i40 i41 i42 c43 c44 c45 c46 c47 c48 c49 c50 c51 c52 c53 c54 c55 c56 c57 c58 c59 i60 c61 i62 c63 i64 i65 i66 c67 c68 c69 c70 c71 c72 i73 c74 c75 i76 i77 i78 c79 i80 i81 i82 i83 i84 (by omega) (by omega) (by omega) (by omega) (by omega) (by omega) (by omega) _) [0] [1, 2, 3] rfl (by decide) rfl (by decide) (by decide) 0 rfl rfl q1883 q160 q1880 q1882 q77 (by decide +kernel) ⟨(Nat.le_of_ble_eq_true rfl), (Nat.le_of_ble_eq_true rfl)⟩ rfl hl.1 rfl (Nat.le_of_ble_eq_true rfl) dX11_count_17 ⟨(Nat.le_of_ble_eq_true rfl), (Nat.le_of_ble_eq_true rfl)⟩ (fun x4 u3 H locs w5 hP hD hS => ?_)
    refine W.widen (k := 0) (n := 0) (Nat.le_of_ble_eq_true rfl) (Nat.le_of_ble_eq_true rfl) ?_
    obtain ⟨x6, rfl⟩ : ∃ z, z = u3 := ⟨_, rfl⟩
    have hP : va_P D vwC [(c43, .inl (dA 3, 3, .inl m43)), (c50, .inl (dA 0, 3, .inl m50)), (c44, .inl (dA 0, 3, .inl m44)), (t0, .inr (11, [.int x6, .ref c1, .int i2, .int i3, .int i4, .int i5, .int i6, .int i7, .long i8, .int i9, .int i10, .ref c11, .ref c12, .ref c13, .ref c14, .ref c15, .ref c16, .int i17, .int i18, .ref c19, .ref c20, .ref c21, .ref c22, .int i23, .ref c24, .ref c25, .ref c26, .ref c27, .ref c28, .ref c29, .ref c30, .int i31, .int i32, .int i33, .int i34, .ref c35, .ref c36, .int i37, .int i38, .int i39, .int i40, .int i41, .int i42, .ref c43, .ref c44, .ref c45, .ref c46, .ref c47, .ref c48, .ref c49, .ref c50, .ref c51, .ref c52, .ref c53, .ref c54, .ref c55, .ref c56, .ref c57, .ref c58, .ref c59, .int i60, .ref c61, .int i62, .ref c63, .int i64, .int i65, .int i66, .ref c67, .ref c68, .ref c69, .ref c70, .ref c71, .ref c72, .int i73, .ref c74, .ref c75, .int i76, .int i77, .int i78, .ref c79, .int i80, .int i81, .int i82, .int i83, .int i84]))] H := hP
    have hD : va_D A [(c43, .inl (dA 3, 3, .inl m43)), (c50, .inl (dA 0, 3, .inl m50)), (c44, .inl (dA 0, 3, .inl m44)), (t0, .inr (11, [.int x6, .ref c1, .int i2, .int i3, .int i4, .int i5, .int i6, .int i7, .long i8, .int i9, .int i10, .ref c11, .ref c12, .ref c13, .ref c14, .ref c15, .ref c16, .int i17, .int i18, .ref c19, .ref c20, .ref c21, .ref c22, .int i23, .ref c24, .ref c25, .ref c26, .ref c27, .ref c28, .ref c29, .ref c30, .int i31, .int i32, .int i33, .int i34, .ref c35, .ref c36, .int i37, .int i38, .int i39, .int i40, .int i41, .int i42, .ref c43, .ref c44, .ref c45, .ref c46, .ref c47, .ref c48, .ref c49, .ref c50, .ref c51, .ref c52, .ref c53, .ref c54, .ref c55, .ref c56, .ref c57, .ref c58, .ref c59, .int i60, .ref c61, .int i62, .ref c63, .int i64, .int i65, .int i66, .ref c67, .ref c68, .ref c69, .ref c70, .ref c71, .ref c72, .int i73, .ref c74, .ref c75, .int i76, .int i77, .int i78, .ref c79, .int i80, .int i81, .int i82, .int i83, .int i84]))] := hD
    have g7 := w5
    have g7 : 0 ≤ x4.toInt ∧ x4.toInt ≤ 0 := g7
    obtain ⟨hP, hD⟩ := g_cut (is := [3, 0, 1, 2]) (w' := [(t0, .inr (11, [.int x6, .ref c1, .int i2, .int i3, .int i4, .int i5, .int i6, .int i7, .long i8, .int i9, .int i10, .ref c11, .ref c12, .ref c13, .ref c14, .ref c15, .ref c16, .int i17, .int i18, .ref c19, .ref c20, .ref c21, .ref c22, .int i23, .ref c24, .ref c25, .ref c26, .ref c27, .ref c28, .ref c29, .ref c30, .int i31, .int i32, .int i33, .int i34, .ref c35, .ref c36, .int i37, .int i38, .int i39, .int i40, .int i41, .int i42, .ref c43, .ref c44, .ref c45, .ref c46, .ref c47, .ref c48, .ref c49, .ref c50, .ref c51, .ref c52, .ref c53, .ref c54, .ref c55, .ref c56, .ref c57, .ref c58, .ref c59, .int i60, .ref c61, .int i62, .ref c63, .int i64, .int i65, .int i66, .ref c67, .ref c68, .ref c69, .ref c70, .ref c71, .ref c72, .int i73, .ref c74, .ref c75, .int i76, .int i77, .int i78, .ref c79, .int i80, .int i81, .int i82, .int i83, .int i84])), (c43, .inl (dA 3, 3, .inl m43)), (c50, .inl (dA 0, 3, .inl m50)), (c44, .inl (dA 0, 3, .inl m44))]) hP hD (by decide) rfl rfl
    exact g_iret hx hb hr rfl hlocks hK x6 hP hD hS trivial (Nat.le_of_ble_eq_true rfl) (Nat.le_of_ble_eq_true rfl) dX11_count_20
  · have g8 : a0.toInt ≥ 0 := gi_nlt (rfl : a0.toInt = a0.toInt) (by decide : (0 : Int32).toInt = 0) k1
    refine lv_iload_n hx hb dX11_count_9 rfl (lv_at hl 1 rfl) ?_
    refine lv_bipush (v := 13) hx hb dX11_count_10 (by decide) ?_
    refine lv_icmp_le (tgt := 21) hx hb dX11_count_12 (by decide) (fun k9 => ?_) (fun k9 => ?_)
    · have g10 : a0.toInt ≤ 13 := gi_le (rfl : a0.toInt = a0.toInt) (by decide : (13 : Int32).toInt = 13) k9
      refine lv_iload_n hx hb dX11_count_21 rfl (lv_at hl 1 rfl) ?_
      refine lv_bipush (v := 11) hx hb dX11_count_22 (by decide) ?_
      refine lv_icmp_lt (tgt := 53) hx hb dX11_count_24 (by decide) (fun k11 => ?_) (fun k11 => ?_)
      · have g12 : a0.toInt < 11 := gi_lt (rfl : a0.toInt = a0.toInt) (by decide : (11 : Int32).toInt = 11) k11
        refine lv_iload_n hx hb dX11_count_53 rfl (lv_at hl 1 rfl) ?_
        refine lv_bipush (v := 8) hx hb dX11_count_54 (by decide) ?_
        refine lv_icmp_lt (tgt := 85) hx hb dX11_count_56 (by decide) (fun k13 => ?_) (fun k13 => ?_)
        · have g14 : a0.toInt < 8 := gi_lt (rfl : a0.toInt = a0.toInt) (by decide : (8 : Int32).toInt = 8) k13
          refine lv_iload_n hx hb dX11_count_85 rfl (lv_at hl 1 rfl) ?_
          by_cases s15 : a0 = 0
          · have g16 : a0.toInt = 0 := by rw [s15]; decide
            refine lv_tableIn (tgt := 128) hx hb dX11_count_86 (by rw [s15]; decide) (by rw [s15]; decide) (by rw [s15]; rfl) (by decide) ?_
            refine lv_aload_n hx hb dX11_count_128 rfl (lv_at hl 0 rfl) ?_
            refine g_get hx hb hg hown hK hP 0 rfl rfl inX11 2 (by decide) q1617 rfl dX11_count_129 ?_
            exact g_iret hx hb hr rfl hlocks hK 0 hP hD hS trivial (Nat.le_of_ble_eq_true rfl) (Nat.le_of_ble_eq_true rfl) dX11_count_132
          by_cases s17 : a0 = 1
          · have g18 : a0.toInt = 1 := by rw [s17]; decide
            refine lv_tableIn (tgt := 133) hx hb dX11_count_86 (by rw [s17]; decide) (by rw [s17]; decide) (by rw [s17]; rfl) (by decide) ?_
            refine lv_aload_n hx hb dX11_count_133 rfl (lv_at hl 0 rfl) ?_
            refine g_get hx hb hg hown hK hP 0 rfl rfl inX11 3 (by decide) q1618 rfl dX11_count_134 ?_
            exact g_iret hx hb hr rfl hlocks hK 0 hP hD hS trivial (Nat.le_of_ble_eq_true rfl) (Nat.le_of_ble_eq_true rfl) dX11_count_137
          by_cases s19 : a0 = 2
          · have g20 : a0.toInt = 2 := by rw [s19]; decide
            refine lv_tableIn (tgt := 138) hx hb dX11_count_86 (by rw [s19]; decide) (by rw [s19]; decide) (by rw [s19]; rfl) (by decide) ?_
            refine lv_aload_n hx hb dX11_count_138 rfl (lv_at hl 0 rfl) ?_
            refine g_get hx hb hg hown hK hP 0 rfl rfl inX11 4 (by decide) q1619 rfl dX11_count_139 ?_
            exact g_iret hx hb hr rfl hlocks hK 0 hP hD hS trivial (Nat.le_of_ble_eq_true rfl) (Nat.le_of_ble_eq_true rfl) dX11_count_142
          by_cases s21 : a0 = 3
          · have g22 : a0.toInt = 3 := by rw [s21]; decide
            refine lv_tableIn (tgt := 143) hx hb dX11_count_86 (by rw [s21]; decide) (by rw [s21]; decide) (by rw [s21]; rfl) (by decide) ?_
            refine lv_aload_n hx hb dX11_count_143 rfl (lv_at hl 0 rfl) ?_
            refine g_get hx hb hg hown hK hP 0 rfl rfl inX11 62 (by decide) q1677 rfl dX11_count_144 ?_
            exact g_iret hx hb hr rfl hlocks hK 0 hP hD hS trivial (Nat.le_of_ble_eq_true rfl) (Nat.le_of_ble_eq_true rfl) dX11_count_147
          by_cases s23 : a0 = 4
          · have g24 : a0.toInt = 4 := by rw [s23]; decide
            refine lv_tableIn (tgt := 148) hx hb dX11_count_86 (by rw [s23]; decide) (by rw [s23]; decide) (by rw [s23]; rfl) (by decide) ?_
            refine lv_aload_n hx hb dX11_count_148 rfl (lv_at hl 0 rfl) ?_
            refine g_get hx hb hg hown hK hP 0 rfl rfl inX11 64 (by decide) q1679 rfl dX11_count_149 ?_
            exact g_iret hx hb hr rfl hlocks hK 0 hP hD hS trivial (Nat.le_of_ble_eq_true rfl) (Nat.le_of_ble_eq_true rfl) dX11_count_152
          by_cases s25 : a0 = 5
          · have g26 : a0.toInt = 5 := by rw [s25]; decide
            refine lv_tableIn (tgt := 153) hx hb dX11_count_86 (by rw [s25]; decide) (by rw [s25]; decide) (by rw [s25]; rfl) (by decide) ?_
            refine lv_aload_n hx hb dX11_count_153 rfl (lv_at hl 0 rfl) ?_
            refine g_get hx hb hg hown hK hP 0 rfl rfl inX11 77 (by decide) q1692 rfl dX11_count_154 ?_
            exact g_iret hx hb hr rfl hlocks hK 0 hP hD hS trivial (Nat.le_of_ble_eq_true rfl) (Nat.le_of_ble_eq_true rfl) dX11_count_157
          by_cases s27 : a0 = 6
          · have g28 : a0.toInt = 6 := by rw [s27]; decide
            refine lv_tableIn (tgt := 158) hx hb dX11_count_86 (by rw [s27]; decide) (by rw [s27]; decide) (by rw [s27]; rfl) (by decide) ?_
            refine lv_aload_n hx hb dX11_count_158 rfl (lv_at hl 0 rfl) ?_
            refine g_get hx hb hg hown hK hP 0 rfl rfl inX11 78 (by decide) q1693 rfl dX11_count_159 ?_
            exact g_iret hx hb hr rfl hlocks hK 0 hP hD hS trivial (Nat.le_of_ble_eq_true rfl) (Nat.le_of_ble_eq_true rfl) dX11_count_162
          have g29 : a0.toInt ≠ 0 := lv_neT s15 (by decide)
          have g30 : a0.toInt ≠ 1 := lv_neT s17 (by decide)
          have g31 : a0.toInt ≠ 2 := lv_neT s19 (by decide)
          have g32 : a0.toInt ≠ 3 := lv_neT s21 (by decide)
          have g33 : a0.toInt ≠ 4 := lv_neT s23 (by decide)
          have g34 : a0.toInt ≠ 5 := lv_neT s25 (by decide)
          have g35 : a0.toInt ≠ 6 := lv_neT s27 (by decide)
          refine lv_tableOut (tgt := 163) hx hb dX11_count_86 (by omega) (by decide) ?_
          refine lv_aload_n hx hb dX11_count_163 rfl (lv_at hl 0 rfl) ?_
          refine g_get hx hb hg hown hK hP 0 rfl rfl inX11 76 (by decide) q1691 rfl dX11_count_164 ?_
          refine lv_if_eq (tgt := 174) hx hb dX11_count_167 (by decide) (fun k36 => ?_) (fun k36 => ?_)
          · have g37 : i76.toInt = 0 := gi_eq (rfl : i76.toInt = i76.toInt) (by decide : (0 : Int32).toInt = 0) k36
            refine lv_iconst (v := 0) hx hb dX11_count_174 (by decide) ?_
            exact g_iret hx hb hr rfl hlocks hK 0 hP hD hS trivial (Nat.le_of_ble_eq_true rfl) (Nat.le_of_ble_eq_true rfl) dX11_count_175
          · have g38 : i76.toInt ≠ 0 := gi_neq (rfl : i76.toInt = i76.toInt) (by decide : (0 : Int32).toInt = 0) k36
            refine lv_iconst (v := 1) hx hb dX11_count_170 (by decide) ?_
            refine lv_goto (tgt := 175) hx hb dX11_count_171 (by decide) ?_
            exact g_iret hx hb hr rfl hlocks hK 0 hP hD hS trivial (Nat.le_of_ble_eq_true rfl) (Nat.le_of_ble_eq_true rfl) dX11_count_175
        · have g39 : a0.toInt ≥ 8 := gi_nlt (rfl : a0.toInt = a0.toInt) (by decide : (8 : Int32).toInt = 8) k13
          refine lv_aload_n hx hb dX11_count_59 rfl (lv_at hl 0 rfl) ?_
          refine g_get hx hb hg hown hK hP 0 rfl rfl inX11 43 (by decide) q1658 rfl dX11_count_60 ?_
          refine lv_iload_n hx hb dX11_count_63 rfl (lv_at hl 1 rfl) ?_
          refine lv_bipush (v := 8) hx hb dX11_count_64 (by decide) ?_
          refine lv_isub hx hb dX11_count_66 ?_
          refine lv_topi (fun x40 e41 => ?_)
          have g42 : x40.toInt = a0.toInt - 8 := g_sub e41 rfl (by decide) (by omega) (by omega)
          refine va_zald hx hb hK hP 1 3 rfl rfl (by rw [vp_in_iff]; omega) dX11_count_67 ?_
          refine lv_topi (fun x43 e44 => ?_)
          have g45 : 0 ≤ x43.toInt ∧ x43.toInt ≤ 1 := by rw [e44]; exact p8 _
          refine lv_if_eq (tgt := 83) hx hb dX11_count_68 (by decide) (fun k46 => ?_) (fun k46 => ?_)
          · have g47 : x43.toInt = 0 := gi_eq (rfl : x43.toInt = x43.toInt) (by decide : (0 : Int32).toInt = 0) k46
            refine lv_iconst (v := 0) hx hb dX11_count_83 (by decide) ?_
            exact g_iret hx hb hr rfl hlocks hK 0 hP hD hS trivial (Nat.le_of_ble_eq_true rfl) (Nat.le_of_ble_eq_true rfl) dX11_count_84
          · have g48 : x43.toInt ≠ 0 := gi_neq (rfl : x43.toInt = x43.toInt) (by decide : (0 : Int32).toInt = 0) k46
            refine lv_aload_n hx hb dX11_count_71 rfl (lv_at hl 0 rfl) ?_
            refine g_get hx hb hg hown hK hP 0 rfl rfl inX11 44 (by decide) q1659 rfl dX11_count_72 ?_
            refine lv_iload_n hx hb dX11_count_75 rfl (lv_at hl 1 rfl) ?_
            refine lv_bipush (v := 8) hx hb dX11_count_76 (by decide) ?_
            refine lv_isub hx hb dX11_count_78 ?_
            refine lv_topi (fun x49 e50 => ?_)
            have g51 : x49.toInt = a0.toInt - 8 := g_sub e50 rfl (by decide) (by omega) (by omega)
            refine va_iald hx hb hK hP 3 0 rfl rfl (by rw [vp_in_iff]; omega) dX11_count_79 ?_
            refine lv_topi (fun x52 e53 => ?_)
            refine lv_goto (tgt := 84) hx hb dX11_count_80 (by decide) ?_
            exact g_iret hx hb hr rfl hlocks hK 0 hP hD hS trivial (Nat.le_of_ble_eq_true rfl) (Nat.le_of_ble_eq_true rfl) dX11_count_84
      · have g54 : a0.toInt ≥ 11 := gi_nlt (rfl : a0.toInt = a0.toInt) (by decide : (11 : Int32).toInt = 11) k11
        refine lv_aload_n hx hb dX11_count_27 rfl (lv_at hl 0 rfl) ?_
        refine g_get hx hb hg hown hK hP 0 rfl rfl inX11 43 (by decide) q1658 rfl dX11_count_28 ?_
        refine lv_iload_n hx hb dX11_count_31 rfl (lv_at hl 1 rfl) ?_
        refine lv_bipush (v := 11) hx hb dX11_count_32 (by decide) ?_
        refine lv_isub hx hb dX11_count_34 ?_
        refine lv_topi (fun x55 e56 => ?_)
        have g57 : x55.toInt = a0.toInt - 11 := g_sub e56 rfl (by decide) (by omega) (by omega)
        refine va_zald hx hb hK hP 1 3 rfl rfl (by rw [vp_in_iff]; omega) dX11_count_35 ?_
        refine lv_topi (fun x58 e59 => ?_)
        have g60 : 0 ≤ x58.toInt ∧ x58.toInt ≤ 1 := by rw [e59]; exact p8 _
        refine lv_if_eq (tgt := 51) hx hb dX11_count_36 (by decide) (fun k61 => ?_) (fun k61 => ?_)
        · have g62 : x58.toInt = 0 := gi_eq (rfl : x58.toInt = x58.toInt) (by decide : (0 : Int32).toInt = 0) k61
          refine lv_iconst (v := 0) hx hb dX11_count_51 (by decide) ?_
          exact g_iret hx hb hr rfl hlocks hK 0 hP hD hS trivial (Nat.le_of_ble_eq_true rfl) (Nat.le_of_ble_eq_true rfl) dX11_count_52
        · have g63 : x58.toInt ≠ 0 := gi_neq (rfl : x58.toInt = x58.toInt) (by decide : (0 : Int32).toInt = 0) k61
          refine lv_aload_n hx hb dX11_count_39 rfl (lv_at hl 0 rfl) ?_
          refine g_get hx hb hg hown hK hP 0 rfl rfl inX11 50 (by decide) q1665 rfl dX11_count_40 ?_
          refine lv_iload_n hx hb dX11_count_43 rfl (lv_at hl 1 rfl) ?_
          refine lv_bipush (v := 11) hx hb dX11_count_44 (by decide) ?_
          refine lv_isub hx hb dX11_count_46 ?_
          refine lv_topi (fun x64 e65 => ?_)
          have g66 : x64.toInt = a0.toInt - 11 := g_sub e65 rfl (by decide) (by omega) (by omega)
          refine va_iald hx hb hK hP 2 0 rfl rfl (by rw [vp_in_iff]; omega) dX11_count_47 ?_
          refine lv_topi (fun x67 e68 => ?_)
          refine lv_goto (tgt := 52) hx hb dX11_count_48 (by decide) ?_
          exact g_iret hx hb hr rfl hlocks hK 0 hP hD hS trivial (Nat.le_of_ble_eq_true rfl) (Nat.le_of_ble_eq_true rfl) dX11_count_52
    · have g69 : a0.toInt > 13 := gi_nle (rfl : a0.toInt = a0.toInt) (by decide : (13 : Int32).toInt = 13) k9
      refine lv_aload_n hx hb dX11_count_15 rfl (lv_at hl 0 rfl) ?_
      refine lv_iconst (v := 1) hx hb dX11_count_16 (by decide) ?_
      refine g_Vi (n := 1) (As := [.int 1]) (rest := []) (wr := [(c43, .inl (dA 3, 3, .inl m43)), (c50, .inl (dA 0, 3, .inl m50)), (c44, .inl (dA 0, 3, .inl m44))]) hx hb hml hg hown hK hP hD hS hA (s_X11_raise l D dA t0 (1) (0) c1 i2 i3 i4 i5 i6 i7 i8 i9 i10 c11 c12 c13 c14 c15 c16 i17 i18 c19 c20 c21 c22 i23 c24 c25 c26 c27 c28 c29 c30 i31 i32 i33 i34 c35 c36 i37 i38 i39 i40 i41 i42 c43 c44 c45 c46 c47 c48 c49 c50 c51 c52 c53 c54 c55 c56 c57 c58 c59 i60 c61 i62 c63 i64 i65 i66 c67 c68 c69 c70 c71 c72 i73 c74 c75 i76 i77 i78 c79 i80 i81 i82 i83 i84 (by omega) (by omega) (by omega) (by omega) (by omega) (by omega) (by omega) _) [0] [1, 2, 3] rfl (by decide) rfl (by decide) (by decide) 0 rfl rfl q1883 q160 q1880 q1882 q77 (by decide +kernel) ⟨(Nat.le_of_ble_eq_true rfl), (Nat.le_of_ble_eq_true rfl)⟩ rfl hl.1 rfl (Nat.le_of_ble_eq_true rfl) dX11_count_17 ⟨(Nat.le_of_ble_eq_true rfl), (Nat.le_of_ble_eq_true rfl)⟩ (fun x71 u70 H locs w72 hP hD hS => ?_)
      refine W.widen (k := 0) (n := 0) (Nat.le_of_ble_eq_true rfl) (Nat.le_of_ble_eq_true rfl) ?_
      obtain ⟨x73, rfl⟩ : ∃ z, z = u70 := ⟨_, rfl⟩
      have hP : va_P D vwC [(c43, .inl (dA 3, 3, .inl m43)), (c50, .inl (dA 0, 3, .inl m50)), (c44, .inl (dA 0, 3, .inl m44)), (t0, .inr (11, [.int x73, .ref c1, .int i2, .int i3, .int i4, .int i5, .int i6, .int i7, .long i8, .int i9, .int i10, .ref c11, .ref c12, .ref c13, .ref c14, .ref c15, .ref c16, .int i17, .int i18, .ref c19, .ref c20, .ref c21, .ref c22, .int i23, .ref c24, .ref c25, .ref c26, .ref c27, .ref c28, .ref c29, .ref c30, .int i31, .int i32, .int i33, .int i34, .ref c35, .ref c36, .int i37, .int i38, .int i39, .int i40, .int i41, .int i42, .ref c43, .ref c44, .ref c45, .ref c46, .ref c47, .ref c48, .ref c49, .ref c50, .ref c51, .ref c52, .ref c53, .ref c54, .ref c55, .ref c56, .ref c57, .ref c58, .ref c59, .int i60, .ref c61, .int i62, .ref c63, .int i64, .int i65, .int i66, .ref c67, .ref c68, .ref c69, .ref c70, .ref c71, .ref c72, .int i73, .ref c74, .ref c75, .int i76, .int i77, .int i78, .ref c79, .int i80, .int i81, .int i82, .int i83, .int i84]))] H := hP
      have hD : va_D A [(c43, .inl (dA 3, 3, .inl m43)), (c50, .inl (dA 0, 3, .inl m50)), (c44, .inl (dA 0, 3, .inl m44)), (t0, .inr (11, [.int x73, .ref c1, .int i2, .int i3, .int i4, .int i5, .int i6, .int i7, .long i8, .int i9, .int i10, .ref c11, .ref c12, .ref c13, .ref c14, .ref c15, .ref c16, .int i17, .int i18, .ref c19, .ref c20, .ref c21, .ref c22, .int i23, .ref c24, .ref c25, .ref c26, .ref c27, .ref c28, .ref c29, .ref c30, .int i31, .int i32, .int i33, .int i34, .ref c35, .ref c36, .int i37, .int i38, .int i39, .int i40, .int i41, .int i42, .ref c43, .ref c44, .ref c45, .ref c46, .ref c47, .ref c48, .ref c49, .ref c50, .ref c51, .ref c52, .ref c53, .ref c54, .ref c55, .ref c56, .ref c57, .ref c58, .ref c59, .int i60, .ref c61, .int i62, .ref c63, .int i64, .int i65, .int i66, .ref c67, .ref c68, .ref c69, .ref c70, .ref c71, .ref c72, .int i73, .ref c74, .ref c75, .int i76, .int i77, .int i78, .ref c79, .int i80, .int i81, .int i82, .int i83, .int i84]))] := hD
      have g74 := w72
      have g74 : 0 ≤ x71.toInt ∧ x71.toInt ≤ 0 := g74
      obtain ⟨hP, hD⟩ := g_cut (is := [3, 0, 1, 2]) (w' := [(t0, .inr (11, [.int x73, .ref c1, .int i2, .int i3, .int i4, .int i5, .int i6, .int i7, .long i8, .int i9, .int i10, .ref c11, .ref c12, .ref c13, .ref c14, .ref c15, .ref c16, .int i17, .int i18, .ref c19, .ref c20, .ref c21, .ref c22, .int i23, .ref c24, .ref c25, .ref c26, .ref c27, .ref c28, .ref c29, .ref c30, .int i31, .int i32, .int i33, .int i34, .ref c35, .ref c36, .int i37, .int i38, .int i39, .int i40, .int i41, .int i42, .ref c43, .ref c44, .ref c45, .ref c46, .ref c47, .ref c48, .ref c49, .ref c50, .ref c51, .ref c52, .ref c53, .ref c54, .ref c55, .ref c56, .ref c57, .ref c58, .ref c59, .int i60, .ref c61, .int i62, .ref c63, .int i64, .int i65, .int i66, .ref c67, .ref c68, .ref c69, .ref c70, .ref c71, .ref c72, .int i73, .ref c74, .ref c75, .int i76, .int i77, .int i78, .ref c79, .int i80, .int i81, .int i82, .int i83, .int i84])), (c43, .inl (dA 3, 3, .inl m43)), (c50, .inl (dA 0, 3, .inl m50)), (c44, .inl (dA 0, 3, .inl m44))]) hP hD (by decide) rfl rfl
      exact g_iret hx hb hr rfl hlocks hK x73 hP hD hS trivial (Nat.le_of_ble_eq_true rfl) (Nat.le_of_ble_eq_true rfl) dX11_count_20
