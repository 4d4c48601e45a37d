theorem q62 : Cond.selects RX4 yX4_readM yX4_readM ∈ gw := gw_in (i := 62) (by decide +kernel) rfl
theorem q63 : Cond.selects RX4 yX4_arithmetic yX4_arithmetic ∈ gw := gw_in (i := 63) (by decide +kernel) rfl
theorem q64 : Cond.selects RX4 yX4_judge yX4_judge ∈ gw := gw_in (i := 64) (by decide +kernel) rfl
theorem q65 : Cond.selects RX4 yX4_writeM yX4_writeM ∈ gw := gw_in (i := 65) (by decide +kernel) rfl
theorem q560 : Cond.fieldLink RX4 30 "SegmentBench$Machine" "carry" "I" ∈ gw := gw_in (i := 560) (by decide +kernel) rfl
theorem q562 : Cond.fieldLink RX4 33 "SegmentBench$Machine" "zero" "I" ∈ gw := gw_in (i := 562) (by decide +kernel) rfl
theorem q564 : Cond.fieldLink RX4 36 "SegmentBench$Machine" "sign" "I" ∈ gw := gw_in (i := 564) (by decide +kernel) rfl
theorem q575 : Cond.fieldLink RX4 48 "SegmentBench$Machine" "slot" "I" ∈ gw := gw_in (i := 575) (by decide +kernel) rfl
theorem q576 : Cond.fieldLink RX4 51 "SegmentBench$Machine" "address" "I" ∈ gw := gw_in (i := 576) (by decide +kernel) rfl
theorem q1440 : Cond.methodLink RX4 132 yX4_readM ∈ gw := gw_in (i := 1440) (by decide +kernel) rfl
theorem q1442 : Cond.instanceMethod yX4_readM ∈ gw := gw_in (i := 1442) (by decide +kernel) rfl
theorem q1443 : Cond.code yX4_readM cX4_readM 1 (some .int) ∈ gw := gw_in (i := 1443) (by decide +kernel) rfl
theorem q1444 : Cond.methodLink RX4 135 yX4_arithmetic ∈ gw := gw_in (i := 1444) (by decide +kernel) rfl
theorem q1446 : Cond.instanceMethod yX4_arithmetic ∈ gw := gw_in (i := 1446) (by decide +kernel) rfl
theorem q1447 : Cond.code yX4_arithmetic cX4_arithmetic 5 (some .int) ∈ gw := gw_in (i := 1447) (by decide +kernel) rfl
theorem q1448 : Cond.methodLink RX4 139 yX4_judge ∈ gw := gw_in (i := 1448) (by decide +kernel) rfl
theorem q1450 : Cond.instanceMethod yX4_judge ∈ gw := gw_in (i := 1450) (by decide +kernel) rfl
theorem q1451 : Cond.code yX4_judge cX4_judge 2 none ∈ gw := gw_in (i := 1451) (by decide +kernel) rfl
theorem q1452 : Cond.methodLink RX4 148 yX4_writeM ∈ gw := gw_in (i := 1452) (by decide +kernel) rfl
theorem q1454 : Cond.instanceMethod yX4_writeM ∈ gw := gw_in (i := 1454) (by decide +kernel) rfl
theorem q1455 : Cond.code yX4_writeM cX4_writeM 2 none ∈ gw := gw_in (i := 1455) (by decide +kernel) rfl
theorem dX4_isArithmetic_0 : decode cX4_isArithmetic 0 = .ok (.iload_n 0, 1) := by decide +kernel
theorem dX4_isArithmetic_1 : decode cX4_isArithmetic 1 = .ok (.iconst 2, 1) := by decide +kernel
theorem dX4_isArithmetic_2 : decode cX4_isArithmetic 2 = .ok (.if_icmp .eq 12, 3) := by decide +kernel
theorem dX4_isArithmetic_14 : decode cX4_isArithmetic 14 = .ok (.iconst 0, 1) := by decide +kernel
theorem dX4_isArithmetic_15 : decode cX4_isArithmetic 15 = .ok (.ireturn, 1) := by decide +kernel
theorem dX4_isArithmetic_5 : decode cX4_isArithmetic 5 = .ok (.iload_n 0, 1) := by decide +kernel
theorem dX4_isArithmetic_6 : decode cX4_isArithmetic 6 = .ok (.iconst 3, 1) := by decide +kernel
theorem dX4_isArithmetic_7 : decode cX4_isArithmetic 7 = .ok (.if_icmp .eq 7, 3) := by decide +kernel
theorem dX4_isArithmetic_10 : decode cX4_isArithmetic 10 = .ok (.iconst 1, 1) := by decide +kernel
theorem dX4_isArithmetic_11 : decode cX4_isArithmetic 11 = .ok (.goto 4, 3) := by decide +kernel
theorem dX4_judge_0 : decode cX4_judge 0 = .ok (.aload_n 0, 1) := by decide +kernel
theorem dX4_judge_1 : decode cX4_judge 1 = .ok (.iload_n 1, 1) := by decide +kernel
theorem dX4_judge_2 : decode cX4_judge 2 = .ok (.ifCond .ne 7, 3) := by decide +kernel
theorem dX4_judge_9 : decode cX4_judge 9 = .ok (.iconst 0, 1) := by decide +kernel
theorem dX4_judge_10 : decode cX4_judge 10 = .ok (.putfield 33, 3) := by decide +kernel
theorem dX4_judge_13 : decode cX4_judge 13 = .ok (.aload_n 0, 1) := by decide +kernel
theorem dX4_judge_14 : decode cX4_judge 14 = .ok (.iload_n 1, 1) := by decide +kernel
theorem dX4_judge_15 : decode cX4_judge 15 = .ok (.bipush 15, 2) := by decide +kernel
theorem dX4_judge_17 : decode cX4_judge 17 = .ok (.ishr, 1) := by decide +kernel
theorem dX4_judge_18 : decode cX4_judge 18 = .ok (.putfield 36, 3) := by decide +kernel
theorem dX4_judge_21 : decode cX4_judge 21 = .ok (.return_, 1) := by decide +kernel
theorem dX4_judge_5 : decode cX4_judge 5 = .ok (.iconst 1, 1) := by decide +kernel
theorem dX4_judge_6 : decode cX4_judge 6 = .ok (.goto 4, 3) := by decide +kernel
theorem dX4_arithmetic_0 : decode cX4_arithmetic 0 = .ok (.iload_n 1, 1) := by decide +kernel
theorem dX4_arithmetic_1 : decode cX4_arithmetic 1 = .ok (.tableswitch 75 0 6 #[43, 51, 75, 75, 59, 75, 67], 43) := by decide +kernel
theorem dX4_arithmetic_44 : decode cX4_arithmetic 44 = .ok (.iload_n 2, 1) := by decide +kernel
theorem dX4_arithmetic_45 : decode cX4_arithmetic 45 = .ok (.iload_n 3, 1) := by decide +kernel
theorem dX4_arithmetic_46 : decode cX4_arithmetic 46 = .ok (.iadd, 1) := by decide +kernel
theorem dX4_arithmetic_47 : decode cX4_arithmetic 47 = .ok (.istore 4, 2) := by decide +kernel
theorem dX4_arithmetic_49 : decode cX4_arithmetic 49 = .ok (.goto 32, 3) := by decide +kernel
theorem dX4_arithmetic_81 : decode cX4_arithmetic 81 = .ok (.aload_n 0, 1) := by decide +kernel
theorem dX4_arithmetic_82 : decode cX4_arithmetic 82 = .ok (.iload 4, 2) := by decide +kernel
theorem dX4_arithmetic_84 : decode cX4_arithmetic 84 = .ok (.bipush 16, 2) := by decide +kernel
theorem dX4_arithmetic_86 : decode cX4_arithmetic 86 = .ok (.ishr, 1) := by decide +kernel
theorem dX4_arithmetic_87 : decode cX4_arithmetic 87 = .ok (.iconst 1, 1) := by decide +kernel
theorem dX4_arithmetic_88 : decode cX4_arithmetic 88 = .ok (.iand, 1) := by decide +kernel
theorem dX4_arithmetic_89 : decode cX4_arithmetic 89 = .ok (.putfield 30, 3) := by decide +kernel
theorem dX4_arithmetic_92 : decode cX4_arithmetic 92 = .ok (.aload_n 0, 1) := by decide +kernel
theorem dX4_arithmetic_93 : decode cX4_arithmetic 93 = .ok (.iload 4, 2) := by decide +kernel
theorem dX4_arithmetic_95 : decode cX4_arithmetic 95 = .ok (.ldc 95, 2) := by decide +kernel
theorem dX4_arithmetic_97 : decode cX4_arithmetic 97 = .ok (.iand, 1) := by decide +kernel
theorem dX4_arithmetic_98 : decode cX4_arithmetic 98 = .ok (.invokevirtual 139, 3) := by decide +kernel
theorem dX4_arithmetic_101 : decode cX4_arithmetic 101 = .ok (.iload 4, 2) := by decide +kernel
theorem dX4_arithmetic_103 : decode cX4_arithmetic 103 = .ok (.ldc 95, 2) := by decide +kernel
theorem dX4_arithmetic_105 : decode cX4_arithmetic 105 = .ok (.iand, 1) := by decide +kernel
theorem dX4_arithmetic_106 : decode cX4_arithmetic 106 = .ok (.ireturn, 1) := by decide +kernel
theorem dX4_arithmetic_52 : decode cX4_arithmetic 52 = .ok (.iload_n 2, 1) := by decide +kernel
theorem dX4_arithmetic_53 : decode cX4_arithmetic 53 = .ok (.iload_n 3, 1) := by decide +kernel
theorem dX4_arithmetic_54 : decode cX4_arithmetic 54 = .ok (.ior, 1) := by decide +kernel
theorem dX4_arithmetic_55 : decode cX4_arithmetic 55 = .ok (.istore 4, 2) := by decide +kernel
theorem dX4_arithmetic_57 : decode cX4_arithmetic 57 = .ok (.goto 24, 3) := by decide +kernel
theorem dX4_arithmetic_76 : decode cX4_arithmetic 76 = .ok (.iload_n 2, 1) := by decide +kernel
theorem dX4_arithmetic_77 : decode cX4_arithmetic 77 = .ok (.iload_n 3, 1) := by decide +kernel
theorem dX4_arithmetic_78 : decode cX4_arithmetic 78 = .ok (.isub, 1) := by decide +kernel
theorem dX4_arithmetic_79 : decode cX4_arithmetic 79 = .ok (.istore 4, 2) := by decide +kernel
theorem dX4_arithmetic_60 : decode cX4_arithmetic 60 = .ok (.iload_n 2, 1) := by decide +kernel
theorem dX4_arithmetic_61 : decode cX4_arithmetic 61 = .ok (.iload_n 3, 1) := by decide +kernel
theorem dX4_arithmetic_62 : decode cX4_arithmetic 62 = .ok (.iand, 1) := by decide +kernel
theorem dX4_arithmetic_63 : decode cX4_arithmetic 63 = .ok (.istore 4, 2) := by decide +kernel
theorem dX4_arithmetic_65 : decode cX4_arithmetic 65 = .ok (.goto 16, 3) := by decide +kernel
theorem dX4_arithmetic_68 : decode cX4_arithmetic 68 = .ok (.iload_n 2, 1) := by decide +kernel
theorem dX4_arithmetic_69 : decode cX4_arithmetic 69 = .ok (.iload_n 3, 1) := by decide +kernel
theorem dX4_arithmetic_70 : decode cX4_arithmetic 70 = .ok (.ixor, 1) := by decide +kernel
theorem dX4_arithmetic_71 : decode cX4_arithmetic 71 = .ok (.istore 4, 2) := by decide +kernel
theorem dX4_arithmetic_73 : decode cX4_arithmetic 73 = .ok (.goto 8, 3) := by decide +kernel
theorem dX4_readM_0 : decode cX4_readM 0 = .ok (.aload_n 0, 1) := by decide +kernel
theorem dX4_readM_1 : decode cX4_readM 1 = .ok (.getfield 48, 3) := by decide +kernel
theorem dX4_readM_4 : decode cX4_readM 4 = .ok (.ifCond .lt 15, 3) := by decide +kernel
theorem dX4_readM_19 : decode cX4_readM 19 = .ok (.aload_n 0, 1) := by decide +kernel
theorem dX4_readM_20 : decode cX4_readM 20 = .ok (.aload_n 0, 1) := by decide +kernel
theorem dX4_readM_21 : decode cX4_readM 21 = .ok (.getfield 51, 3) := by decide +kernel
theorem dX4_readM_24 : decode cX4_readM 24 = .ok (.invokevirtual 74, 3) := by decide +kernel
theorem dX4_readM_27 : decode cX4_readM 27 = .ok (.ireturn, 1) := by decide +kernel
theorem dX4_readM_7 : decode cX4_readM 7 = .ok (.aload_n 0, 1) := by decide +kernel
theorem dX4_readM_8 : decode cX4_readM 8 = .ok (.getfield 13, 3) := by decide +kernel
theorem dX4_readM_11 : decode cX4_readM 11 = .ok (.aload_n 0, 1) := by decide +kernel
theorem dX4_readM_12 : decode cX4_readM 12 = .ok (.getfield 48, 3) := by decide +kernel
theorem dX4_readM_15 : decode cX4_readM 15 = .ok (.iaload, 1) := by decide +kernel
theorem dX4_readM_16 : decode cX4_readM 16 = .ok (.goto 11, 3) := by decide +kernel
theorem dX4_writeM_0 : decode cX4_writeM 0 = .ok (.aload_n 0, 1) := by decide +kernel
theorem dX4_writeM_1 : decode cX4_writeM 1 = .ok (.getfield 48, 3) := by decide +kernel
theorem dX4_writeM_4 : decode cX4_writeM 4 = .ok (.ifCond .lt 19, 3) := by decide +kernel
theorem dX4_writeM_23 : decode cX4_writeM 23 = .ok (.aload_n 0, 1) := by decide +kernel
theorem dX4_writeM_24 : decode cX4_writeM 24 = .ok (.aload_n 0, 1) := by decide +kernel
theorem dX4_writeM_25 : decode cX4_writeM 25 = .ok (.getfield 51, 3) := by decide +kernel
theorem dX4_writeM_28 : decode cX4_writeM 28 = .ok (.iload_n 1, 1) := by decide +kernel
theorem dX4_writeM_29 : decode cX4_writeM 29 = .ok (.invokevirtual 78, 3) := by decide +kernel
theorem dX4_writeM_32 : decode cX4_writeM 32 = .ok (.return_, 1) := by decide +kernel
theorem dX4_writeM_7 : decode cX4_writeM 7 = .ok (.aload_n 0, 1) := by decide +kernel
theorem dX4_writeM_8 : decode cX4_writeM 8 = .ok (.getfield 13, 3) := by decide +kernel
theorem dX4_writeM_11 : decode cX4_writeM 11 = .ok (.aload_n 0, 1) := by decide +kernel
theorem dX4_writeM_12 : decode cX4_writeM 12 = .ok (.getfield 48, 3) := by decide +kernel
theorem dX4_writeM_15 : decode cX4_writeM 15 = .ok (.iload_n 1, 1) := by decide +kernel
theorem dX4_writeM_16 : decode cX4_writeM 16 = .ok (.ldc 95, 2) := by decide +kernel
theorem dX4_writeM_18 : decode cX4_writeM 18 = .ok (.iand, 1) := by decide +kernel
theorem dX4_writeM_19 : decode cX4_writeM 19 = .ok (.iastore, 1) := by decide +kernel
theorem dX4_writeM_20 : decode cX4_writeM 20 = .ok (.goto 12, 3) := by decide +kernel
theorem dX4_arithmeticOnM_0 : decode cX4_arithmeticOnM 0 = .ok (.aload_n 0, 1) := by decide +kernel
theorem dX4_arithmeticOnM_1 : decode cX4_arithmeticOnM 1 = .ok (.iload_n 1, 1) := by decide +kernel
theorem dX4_arithmeticOnM_2 : decode cX4_arithmeticOnM 2 = .ok (.aload_n 0, 1) := by decide +kernel
theorem dX4_arithmeticOnM_3 : decode cX4_arithmeticOnM 3 = .ok (.invokevirtual 132, 3) := by decide +kernel
theorem dX4_arithmeticOnM_6 : decode cX4_arithmeticOnM 6 = .ok (.iload_n 2, 1) := by decide +kernel
theorem dX4_arithmeticOnM_7 : decode cX4_arithmeticOnM 7 = .ok (.invokevirtual 135, 3) := by decide +kernel
theorem dX4_arithmeticOnM_10 : decode cX4_arithmeticOnM 10 = .ok (.istore_n 3, 1) := by decide +kernel
theorem dX4_arithmeticOnM_11 : decode cX4_arithmeticOnM 11 = .ok (.iload_n 1, 1) := by decide +kernel
theorem dX4_arithmeticOnM_12 : decode cX4_arithmeticOnM 12 = .ok (.bipush 7, 2) := by decide +kernel
theorem dX4_arithmeticOnM_14 : decode cX4_arithmeticOnM 14 = .ok (.if_icmp .eq 8, 3) := by decide +kernel
theorem dX4_arithmeticOnM_22 : decode cX4_arithmeticOnM 22 = .ok (.return_, 1) := by decide +kernel
theorem dX4_arithmeticOnM_17 : decode cX4_arithmeticOnM 17 = .ok (.aload_n 0, 1) := by decide +kernel
theorem dX4_arithmeticOnM_18 : decode cX4_arithmeticOnM 18 = .ok (.iload_n 3, 1) := by decide +kernel
theorem dX4_arithmeticOnM_19 : decode cX4_arithmeticOnM 19 = .ok (.invokevirtual 148, 3) := by decide +kernel
set_option maxHeartbeats 4000000 in
set_option maxRecDepth 100000 in
theorem s_X4_isArithmetic (l : Launch) (D : va_G) (dA : Nat → ClassId) (a0 : Int32) (sz : Nat) : Met l yX4_isArithmetic (gws yX4_isArithmetic cX4_isArithmetic 1 (some .boolean)) (gR 1 0 0) (gPre D dA [.int a0] [] sz) (va_Qi (fun (r : Int32) (u : Unit) => (0 ≤ r.toInt ∧ r.toInt ≤ 1)) (gAt D dA (va_A [] sz) (fun u : Unit => [])) (va_A [] sz)) 0 0 (va_A [] sz) := by
  refine Met.ofW (cc := cX4_isArithmetic) (maxL := 1) (ret := (some .boolean)) (by decide) rfl ?_
  intro p e s m args below meth c s₁ B hml hv
  obtain ⟨rfl, hsz, hP, hK, hD0⟩ := hv
  have hx := B.exec
  have hb := B.bytes
  have hr := B.returns
  have hts := atoms_spec (ws := gws yX4_isArithmetic cX4_isArithmetic 1 (some .boolean)) B.pre
  have hg : ∀ w ∈ gw, w.before _ s = true := fun w h => hts w (List.mem_cons_of_mem _ h)
  have hown : s.vm.findClass RX4 = some m.cls := findClass_of_methodNamed B.named
  have hlocks := B.notSynchronized
  subst hsz
  have hD := hD0.self (sz := s.heap.size)
  generalize hAe : va_A [] s.heap.size = A at hD ⊢
  have hA : ∀ q : Nat, s.heap.size ≤ q → A q := fun q h => by rw [← hAe]; exact Or.inr h
  have hS : va_S A s.heap s.heap [] := va_S.rf
  have hP : va_P D vwC [] s.heap := hP
  have hl := lv_entry ([.int a0]) (n := 1) (Nat.le_of_ble_eq_true rfl)
  rw [lg_entry_eq]
  generalize (lg_sl ([.int a0]) ++ List.replicate (1 - (lg_sl ([.int a0])).length) Slot.unset).toArray = ls at hl ⊢
  have hl : lv_has ls 1 [(0, .int a0)] := hl
  refine lv_iload_n hx hb dX4_isArithmetic_0 rfl (lv_at hl 0 rfl) ?_
  refine lv_iconst (v := 2) hx hb dX4_isArithmetic_1 (by decide) ?_
  refine lv_icmp_eq (tgt := 14) hx hb dX4_isArithmetic_2 (by decide) (fun k1 => ?_) (fun k1 => ?_)
  · have g2 : a0.toInt = 2 := gi_eq (rfl : a0.toInt = a0.toInt) (by decide : (2 : Int32).toInt = 2) k1
    refine lv_iconst (v := 0) hx hb dX4_isArithmetic_14 (by decide) ?_
    exact g_iret hx hb hr rfl hlocks hK () hP hD hS (show 0 ≤ ((0 : Int32)).toInt ∧ ((0 : Int32)).toInt ≤ 1 from by decide) (Nat.le_of_ble_eq_true rfl) (Nat.le_of_ble_eq_true rfl) dX4_isArithmetic_15
  · have g3 : a0.toInt ≠ 2 := gi_neq (rfl : a0.toInt = a0.toInt) (by decide : (2 : Int32).toInt = 2) k1
    refine lv_iload_n hx hb dX4_isArithmetic_5 rfl (lv_at hl 0 rfl) ?_
    refine lv_iconst (v := 3) hx hb dX4_isArithmetic_6 (by decide) ?_
    refine lv_icmp_eq (tgt := 14) hx hb dX4_isArithmetic_7 (by decide) (fun k4 => ?_) (fun k4 => ?_)
    · have g5 : a0.toInt = 3 := gi_eq (rfl : a0.toInt = a0.toInt) (by decide : (3 : Int32).toInt = 3) k4
      refine lv_iconst (v := 0) hx hb dX4_isArithmetic_14 (by decide) ?_
      exact g_iret hx hb hr rfl hlocks hK () hP hD hS (show 0 ≤ ((0 : Int32)).toInt ∧ ((0 : Int32)).toInt ≤ 1 from by decide) (Nat.le_of_ble_eq_true rfl) (Nat.le_of_ble_eq_true rfl) dX4_isArithmetic_15
    · have g6 : a0.toInt ≠ 3 := gi_neq (rfl : a0.toInt = a0.toInt) (by decide : (3 : Int32).toInt = 3) k4
      refine lv_iconst (v := 1) hx hb dX4_isArithmetic_10 (by decide) ?_
      refine lv_goto (tgt := 15) hx hb dX4_isArithmetic_11 (by decide) ?_
      exact g_iret hx hb hr rfl hlocks hK () hP hD hS (show 0 ≤ ((1 : Int32)).toInt ∧ ((1 : Int32)).toInt ≤ 1 from by decide) (Nat.le_of_ble_eq_true rfl) (Nat.le_of_ble_eq_true rfl) dX4_isArithmetic_15
set_option maxHeartbeats 4000000 in
set_option maxRecDepth 100000 in
theorem s_X4_judge (l : Launch) (D : va_G) (dA : Nat → ClassId) (t0 : Nat) (a0 : Int32) (c0 : Nat) (c1 : Nat) (c2 : Nat) (i0 : Int32) (i1 : Int32) (i2 : Int32) (i3 : Int32) (i4 : Int32) (i5 : Int32) (i6 : Int32) (c3 : Nat) (i7 : Int32) (i8 : Int32) (i9 : Int32) (m0 : Nat → Int32) (m1 : Nat → Int32) (m2 : Nat → Int32) (m3 : Nat → Int32) (p0 : 0 ≤ i4.toInt ∧ i4.toInt ≤ 1) (p1 : 0 ≤ i6.toInt ∧ i6.toInt ≤ 1000000) (p2 : 0 ≤ i7.toInt ∧ i7.toInt ≤ 7) (p3 : -1 ≤ i8.toInt ∧ i8.toInt ≤ 7) (p4 : ∀ j : Nat, 0 ≤ (m0 j).toInt ∧ (m0 j).toInt ≤ 255) (sz : Nat) : Met l yX4_judge (gws yX4_judge cX4_judge 2 none) (gR 1 0 0) (gPre D dA [.ref t0, .int a0] [(t0, .inr (4, [.ref c0, .ref c1, .ref c2, .int i0, .int i1, .int i2, .int i3, .int i4, .int i5, .int i6, .ref c3, .int i7, .int i8, .int i9])), (c0, .inl (dA 0, 4096, .inl m0)), (c1, .inl (dA 0, 8, .inl m1)), (c2, .inl (dA 0, 4, .inl m2)), (c3, .inl (dA 0, 30, .inl m3))] sz) (va_Qv (fun u : Int32 × Int32 => True) (gAt D dA (va_A [(t0, .inr (4, [.ref c0, .ref c1, .ref c2, .int i0, .int i1, .int i2, .int i3, .int i4, .int i5, .int i6, .ref c3, .int i7, .int i8, .int i9])), (c0, .inl (dA 0, 4096, .inl m0)), (c1, .inl (dA 0, 8, .inl m1)), (c2, .inl (dA 0, 4, .inl m2)), (c3, .inl (dA 0, 30, .inl m3))] sz) (fun u : Int32 × Int32 => [(t0, .inr (4, [.ref c0, .ref c1, .ref c2, .int i0, .int i1, .int u.1, .int u.2, .int i4, .int i5, .int i6, .ref c3, .int i7, .int i8, .int i9])), (c0, .inl (dA 0, 4096, .inl m0)), (c1, .inl (dA 0, 8, .inl m1)), (c2, .inl (dA 0, 4, .inl m2)), (c3, .inl (dA 0, 30, .inl m3))])) (va_A [(t0, .inr (4, [.ref c0, .ref c1, .ref c2, .int i0, .int i1, .int i2, .int i3, .int i4, .int i5, .int i6, .ref c3, .int i7, .int i8, .int i9])), (c0, .inl (dA 0, 4096, .inl m0)), (c1, .inl (dA 0, 8, .inl m1)), (c2, .inl (dA 0, 4, .inl m2)), (c3, .inl (dA 0, 30, .inl m3))] sz)) 0 0 (va_A [(t0, .inr (4, [.ref c0, .ref c1, .ref c2, .int i0, .int i1, .int i2, .int i3, .int i4, .int i5, .int i6, .ref c3, .int i7, .int i8, .int i9])), (c0, .inl (dA 0, 4096, .inl m0)), (c1, .inl (dA 0, 8, .inl m1)), (c2, .inl (dA 0, 4, .inl m2)), (c3, .inl (dA 0, 30, .inl m3))] sz) := by
  refine Met.ofW (cc := cX4_judge) (maxL := 2) (ret := none) (by decide) rfl ?_
  intro p e s m args below meth c s₁ B hml hv
  obtain ⟨rfl, hsz, hP, hK, hD0⟩ := hv
  have hx := B.exec
  have hb := B.bytes
  have hr := B.returns
  have hts := atoms_spec (ws := gws yX4_judge cX4_judge 2 none) B.pre
  have hg : ∀ w ∈ gw, w.before _ s = true := fun w h => hts w (List.mem_cons_of_mem _ h)
  have hown : s.vm.findClass RX4 = some m.cls := findClass_of_methodNamed B.named
  have hlocks := B.notSynchronized
  subst hsz
  have hD := hD0.self (sz := s.heap.size)
  generalize hAe : va_A [(t0, .inr (4, [.ref c0, .ref c1, .ref c2, .int i0, .int i1, .int i2, .int i3, .int i4, .int i5, .int i6, .ref c3, .int i7, .int i8, .int i9])), (c0, .inl (dA 0, 4096, .inl m0)), (c1, .inl (dA 0, 8, .inl m1)), (c2, .inl (dA 0, 4, .inl m2)), (c3, .inl (dA 0, 30, .inl m3))] s.heap.size = A at hD ⊢
  have hA : ∀ q : Nat, s.heap.size ≤ q → A q := fun q h => by rw [← hAe]; exact Or.inr h
  have hS : va_S A s.heap s.heap [] := va_S.rf
  have hP : va_P D vwC [(t0, .inr (4, [.ref c0, .ref c1, .ref c2, .int i0, .int i1, .int i2, .int i3, .int i4, .int i5, .int i6, .ref c3, .int i7, .int i8, .int i9])), (c0, .inl (dA 0, 4096, .inl m0)), (c1, .inl (dA 0, 8, .inl m1)), (c2, .inl (dA 0, 4, .inl m2)), (c3, .inl (dA 0, 30, .inl m3))] s.heap := hP
  have hl := lv_entry ([.ref t0, .int a0]) (n := 2) (Nat.le_of_ble_eq_true rfl)
  rw [lg_entry_eq]
  generalize (lg_sl ([.ref t0, .int a0]) ++ List.replicate (2 - (lg_sl ([.ref t0, .int a0])).length) Slot.unset).toArray = ls at hl ⊢
  have hl : lv_has ls 2 [(0, .ref t0), (1, .int a0)] := hl
  refine lv_aload_n hx hb dX4_judge_0 rfl (lv_at hl 0 rfl) ?_
  refine lv_iload_n hx hb dX4_judge_1 rfl (lv_at hl 1 rfl) ?_
  refine lv_if_ne (tgt := 9) hx hb dX4_judge_2 (by decide) (fun k1 => ?_) (fun k1 => ?_)
  · have g2 : a0.toInt ≠ 0 := gi_neq (rfl : a0.toInt = a0.toInt) (by decide : (0 : Int32).toInt = 0) k1
    refine lv_iconst (v := 0) hx hb dX4_judge_9 (by decide) ?_
    refine g_put (w' := [(t0, .inr (4, [.ref c0, .ref c1, .ref c2, .int i0, .int i1, .int 0, .int i3, .int i4, .int i5, .int i6, .ref c3, .int i7, .int i8, .int i9])), (c0, .inl (dA 0, 4096, .inl m0)), (c1, .inl (dA 0, 8, .inl m1)), (c2, .inl (dA 0, 4, .inl m2)), (c3, .inl (dA 0, 30, .inl m3))]) hx hb hg hown hK hP hD hS 0 rfl rfl inX4 tyX4_ok nmX4 5 (by decide) q562 rfl rfl rfl (Nat.le_of_ble_eq_true rfl) rfl dX4_judge_10 (fun H locs hP hD hS => ?_)
    refine lv_aload_n hx hb dX4_judge_13 rfl (lv_at hl 0 rfl) ?_
    refine lv_iload_n hx hb dX4_judge_14 rfl (lv_at hl 1 rfl) ?_
    refine lv_bipush (v := 15) hx hb dX4_judge_15 (by decide) ?_
    refine lv_ishr hx hb dX4_judge_17 ?_
    refine lv_topi (fun x3 e4 => ?_)
    have g5 : x3.toInt * 32768 ≤ a0.toInt ∧ a0.toInt < x3.toInt * 32768 + 32768 := g_shr e4 15 (by decide) (by decide) (by decide)
    refine g_put (w' := [(t0, .inr (4, [.ref c0, .ref c1, .ref c2, .int i0, .int i1, .int 0, .int x3, .int i4, .int i5, .int i6, .ref c3, .int i7, .int i8, .int i9])), (c0, .inl (dA 0, 4096, .inl m0)), (c1, .inl (dA 0, 8, .inl m1)), (c2, .inl (dA 0, 4, .inl m2)), (c3, .inl (dA 0, 30, .inl m3))]) hx hb hg hown hK hP hD hS 0 rfl rfl inX4 tyX4_ok nmX4 6 (by decide) q564 rfl rfl rfl (Nat.le_of_ble_eq_true rfl) rfl dX4_judge_18 (fun H locs hP hD hS => ?_)
    exact g_vret hx hb hr hlocks hK (0, x3) hP hD hS trivial (Nat.le_of_ble_eq_true rfl) (Nat.le_of_ble_eq_true rfl) dX4_judge_21
  · have g6 : a0.toInt = 0 := gi_eq (rfl : a0.toInt = a0.toInt) (by decide : (0 : Int32).toInt = 0) k1
    refine lv_iconst (v := 1) hx hb dX4_judge_5 (by decide) ?_
    refine lv_goto (tgt := 10) hx hb dX4_judge_6 (by decide) ?_
    refine g_put (w' := [(t0, .inr (4, [.ref c0, .ref c1, .ref c2, .int i0, .int i1, .int 1, .int i3, .int i4, .int i5, .int i6, .ref c3, .int i7, .int i8, .int i9])), (c0, .inl (dA 0, 4096, .inl m0)), (c1, .inl (dA 0, 8, .inl m1)), (c2, .inl (dA 0, 4, .inl m2)), (c3, .inl (dA 0, 30, .inl m3))]) hx hb hg hown hK hP hD hS 0 rfl rfl inX4 tyX4_ok nmX4 5 (by decide) q562 rfl rfl rfl (Nat.le_of_ble_eq_true rfl) rfl dX4_judge_10 (fun H locs hP hD hS => ?_)
    refine lv_aload_n hx hb dX4_judge_13 rfl (lv_at hl 0 rfl) ?_
    refine lv_iload_n hx hb dX4_judge_14 rfl (lv_at hl 1 rfl) ?_
    refine lv_bipush (v := 15) hx hb dX4_judge_15 (by decide) ?_
    refine lv_ishr hx hb dX4_judge_17 ?_
    refine lv_topi (fun x7 e8 => ?_)
    have g9 : x7.toInt * 32768 ≤ a0.toInt ∧ a0.toInt < x7.toInt * 32768 + 32768 := g_shr e8 15 (by decide) (by decide) (by decide)
    refine g_put (w' := [(t0, .inr (4, [.ref c0, .ref c1, .ref c2, .int i0, .int i1, .int 1, .int x7, .int i4, .int i5, .int i6, .ref c3, .int i7, .int i8, .int i9])), (c0, .inl (dA 0, 4096, .inl m0)), (c1, .inl (dA 0, 8, .inl m1)), (c2, .inl (dA 0, 4, .inl m2)), (c3, .inl (dA 0, 30, .inl m3))]) hx hb hg hown hK hP hD hS 0 rfl rfl inX4 tyX4_ok nmX4 6 (by decide) q564 rfl rfl rfl (Nat.le_of_ble_eq_true rfl) rfl dX4_judge_18 (fun H locs hP hD hS => ?_)
    exact g_vret hx hb hr hlocks hK (1, x7) hP hD hS trivial (Nat.le_of_ble_eq_true rfl) (Nat.le_of_ble_eq_true rfl) dX4_judge_21
set_option maxHeartbeats 4000000 in
set_option maxRecDepth 100000 in
theorem s_X4_arithmetic (l : Launch) (D : va_G) (dA : Nat → ClassId) (t0 : Nat) (a0 : Int32) (a1 : Int32) (a2 : Int32) (c0 : Nat) (c1 : Nat) (c2 : Nat) (i0 : Int32) (i1 : Int32) (i2 : Int32) (i3 : Int32) (i4 : Int32) (i5 : Int32) (i6 : Int32) (c3 : Nat) (i7 : Int32) (i8 : Int32) (i9 : Int32) (m0 : Nat → Int32) (m1 : Nat → Int32) (m2 : Nat → Int32) (m3 : Nat → Int32) (p0 : 0 ≤ i4.toInt ∧ i4.toInt ≤ 1) (p1 : 0 ≤ i6.toInt ∧ i6.toInt ≤ 1000000) (p2 : 0 ≤ i7.toInt ∧ i7.toInt ≤ 7) (p3 : -1 ≤ i8.toInt ∧ i8.toInt ≤ 7) (p4 : ∀ j : Nat, 0 ≤ (m0 j).toInt ∧ (m0 j).toInt ≤ 255) (sz : Nat) : Met l yX4_arithmetic (gws yX4_arithmetic cX4_arithmetic 5 (some .int)) (gR 2 0 0) (gPre D dA [.ref t0, .int a0, .int a1, .int a2] [(t0, .inr (4, [.ref c0, .ref c1, .ref c2, .int i0, .int i1, .int i2, .int i3, .int i4, .int i5, .int i6, .ref c3, .int i7, .int i8, .int i9])), (c0, .inl (dA 0, 4096, .inl m0)), (c1, .inl (dA 0, 8, .inl m1)), (c2, .inl (dA 0, 4, .inl m2)), (c3, .inl (dA 0, 30, .inl m3))] sz) (va_Qi (fun (r : Int32) (u : Int32 × Int32 × Int32) => True) (gAt D dA (va_A [(t0, .inr (4, [.ref c0, .ref c1, .ref c2, .int i0, .int i1, .int i2, .int i3, .int i4, .int i5, .int i6, .ref c3, .int i7, .int i8, .int i9])), (c0, .inl (dA 0, 4096, .inl m0)), (c1, .inl (dA 0, 8, .inl m1)), (c2, .inl (dA 0, 4, .inl m2)), (c3, .inl (dA 0, 30, .inl m3))] sz) (fun u : Int32 × Int32 × Int32 => [(t0, .inr (4, [.ref c0, .ref c1, .ref c2, .int i0, .int u.1, .int u.2.1, .int u.2.2, .int i4, .int i5, .int i6, .ref c3, .int i7, .int i8, .int i9])), (c0, .inl (dA 0, 4096, .inl m0)), (c1, .inl (dA 0, 8, .inl m1)), (c2, .inl (dA 0, 4, .inl m2)), (c3, .inl (dA 0, 30, .inl m3))])) (va_A [(t0, .inr (4, [.ref c0, .ref c1, .ref c2, .int i0, .int i1, .int i2, .int i3, .int i4, .int i5, .int i6, .ref c3, .int i7, .int i8, .int i9])), (c0, .inl (dA 0, 4096, .inl m0)), (c1, .inl (dA 0, 8, .inl m1)), (c2, .inl (dA 0, 4, .inl m2)), (c3, .inl (dA 0, 30, .inl m3))] sz)) 0 0 (va_A [(t0, .inr (4, [.ref c0, .ref c1, .ref c2, .int i0, .int i1, .int i2, .int i3, .int i4, .int i5, .int i6, .ref c3, .int i7, .int i8, .int i9])), (c0, .inl (dA 0, 4096, .inl m0)), (c1, .inl (dA 0, 8, .inl m1)), (c2, .inl (dA 0, 4, .inl m2)), (c3, .inl (dA 0, 30, .inl m3))] sz) := by
  refine Met.ofW (cc := cX4_arithmetic) (maxL := 5) (ret := (some .int)) (by decide) rfl ?_
  intro p e s m args below meth c s₁ B hml hv
  obtain ⟨rfl, hsz, hP, hK, hD0⟩ := hv
  have hx := B.exec
  have hb := B.bytes
  have hr := B.returns
  have hts := atoms_spec (ws := gws yX4_arithmetic cX4_arithmetic 5 (some .int)) B.pre
  have hg : ∀ w ∈ gw, w.before _ s = true := fun w h => hts w (List.mem_cons_of_mem _ h)
  have hown : s.vm.findClass RX4 = some m.cls := findClass_of_methodNamed B.named
  have hlocks := B.notSynchronized
  subst hsz
  have hD := hD0.self (sz := s.heap.size)
  generalize hAe : va_A [(t0, .inr (4, [.ref c0, .ref c1, .ref c2, .int i0, .int i1, .int i2, .int i3, .int i4, .int i5, .int i6, .ref c3, .int i7, .int i8, .int i9])), (c0, .inl (dA 0, 4096, .inl m0)), (c1, .inl (dA 0, 8, .inl m1)), (c2, .inl (dA 0, 4, .inl m2)), (c3, .inl (dA 0, 30, .inl m3))] s.heap.size = A at hD ⊢
  have hA : ∀ q : Nat, s.heap.size ≤ q → A q := fun q h => by rw [← hAe]; exact Or.inr h
  have hS : va_S A s.heap s.heap [] := va_S.rf
  have hP : va_P D vwC [(t0, .inr (4, [.ref c0, .ref c1, .ref c2, .int i0, .int i1, .int i2, .int i3, .int i4, .int i5, .int i6, .ref c3, .int i7, .int i8, .int i9])), (c0, .inl (dA 0, 4096, .inl m0)), (c1, .inl (dA 0, 8, .inl m1)), (c2, .inl (dA 0, 4, .inl m2)), (c3, .inl (dA 0, 30, .inl m3))] s.heap := hP
  have hl := lv_entry ([.ref t0, .int a0, .int a1, .int a2]) (n := 5) (Nat.le_of_ble_eq_true rfl)
  rw [lg_entry_eq]
  generalize (lg_sl ([.ref t0, .int a0, .int a1, .int a2]) ++ List.replicate (5 - (lg_sl ([.ref t0, .int a0, .int a1, .int a2])).length) Slot.unset).toArray = ls at hl ⊢
  have hl : lv_has ls 5 [(0, .ref t0), (1, .int a0), (2, .int a1), (3, .int a2)] := hl
  refine lv_iload_n hx hb dX4_arithmetic_0 rfl (lv_at hl 1 rfl) ?_
  by_cases s1 : a0 = 0
  · have g2 : a0.toInt = 0 := by rw [s1]; decide
    refine lv_tableIn (tgt := 44) hx hb dX4_arithmetic_1 (by rw [s1]; decide) (by rw [s1]; decide) (by rw [s1]; rfl) (by decide) ?_
    refine lv_iload_n hx hb dX4_arithmetic_44 rfl (lv_at hl 2 rfl) ?_
    refine lv_iload_n hx hb dX4_arithmetic_45 rfl (lv_at hl 3 rfl) ?_
    refine lv_iadd hx hb dX4_arithmetic_46 ?_
    have g3 := g_i32 a1
    have g4 := g_i32 a2
    refine lv_topi (fun x5 e6 => ?_)
    refine lv_istore (lv' := [(4, .int x5), (0, .ref t0), (1, .int a0), (2, .int a1), (3, .int a2)]) hx hb dX4_arithmetic_47 hl (by decide) rfl (fun ls hl => ?_)
    refine lv_goto (tgt := 81) hx hb dX4_arithmetic_49 (by decide) ?_
    refine lv_aload_n hx hb dX4_arithmetic_81 rfl (lv_at hl 1 rfl) ?_
    refine lv_iload hx hb dX4_arithmetic_82 (lv_at hl 0 rfl) ?_
    refine lv_bipush (v := 16) hx hb dX4_arithmetic_84 (by decide) ?_
    refine lv_ishr hx hb dX4_arithmetic_86 ?_
    refine lv_topi (fun x7 e8 => ?_)
    have g9 : x7.toInt * 65536 ≤ x5.toInt ∧ x5.toInt < x7.toInt * 65536 + 65536 := g_shr e8 16 (by decide) (by decide) (by decide)
    refine lv_iconst (v := 1) hx hb dX4_arithmetic_87 (by decide) ?_
    refine lv_iand hx hb dX4_arithmetic_88 ?_
    refine lv_topi (fun x10 e11 => ?_)
    have g12 : 0 ≤ x10.toInt ∧ x10.toInt ≤ 1 := g_msk e11 1 (by decide) (by decide) (by decide)
    refine g_put (w' := [(t0, .inr (4, [.ref c0, .ref c1, .ref c2, .int i0, .int x10, .int i2, .int i3, .int i4, .int i5, .int i6, .ref c3, .int i7, .int i8, .int i9])), (c0, .inl (dA 0, 4096, .inl m0)), (c1, .inl (dA 0, 8, .inl m1)), (c2, .inl (dA 0, 4, .inl m2)), (c3, .inl (dA 0, 30, .inl m3))]) hx hb hg hown hK hP hD hS 0 rfl rfl inX4 tyX4_ok nmX4 4 (by decide) q560 rfl rfl rfl (Nat.le_of_ble_eq_true rfl) rfl dX4_arithmetic_89 (fun H locs hP hD hS => ?_)
    refine lv_aload_n hx hb dX4_arithmetic_92 rfl (lv_at hl 1 rfl) ?_
    refine lv_iload hx hb dX4_arithmetic_93 (lv_at hl 0 rfl) ?_
    refine lv_ldc hx hb hown (hg _ q1400) dX4_arithmetic_95 ?_
    refine lv_iand hx hb dX4_arithmetic_97 ?_
    refine lv_topi (fun x13 e14 => ?_)
    have g15 : 0 ≤ x13.toInt ∧ x13.toInt ≤ 65535 := g_msk e14 16 (by decide) (by decide) (by decide)
    refine g_Vv (n := 1) (As := [.int x13]) (rest := []) (wr := []) hx hb hml hg hown hK hP hD hS hA (s_X4_judge l D dA t0 x13 c0 c1 c2 i0 x10 i2 i3 i4 i5 i6 c3 i7 i8 i9 m0 m1 m2 m3 (by omega) (by omega) (by omega) (by omega) p4 _) [0, 1, 2, 3, 4] [] rfl (by decide) rfl (by decide) (by decide) 0 rfl rfl q1451 q159 q1448 q1450 q64 (by decide +kernel) ⟨(Nat.le_of_ble_eq_true rfl), (Nat.le_of_ble_eq_true rfl)⟩ rfl hl.1 rfl (Nat.le_of_ble_eq_true rfl) dX4_arithmetic_98 ⟨(Nat.le_of_ble_eq_true rfl), (Nat.le_of_ble_eq_true rfl)⟩ (fun u16 H locs w18 hP hD hS => ?_)
    refine W.widen (k := 0) (n := 0) (Nat.le_of_ble_eq_true rfl) (Nat.le_of_ble_eq_true rfl) ?_
    obtain ⟨x19, x20⟩ := u16
    have hP : va_P D vwC [(t0, .inr (4, [.ref c0, .ref c1, .ref c2, .int i0, .int x10, .int x19, .int x20, .int i4, .int i5, .int i6, .ref c3, .int i7, .int i8, .int i9])), (c0, .inl (dA 0, 4096, .inl m0)), (c1, .inl (dA 0, 8, .inl m1)), (c2, .inl (dA 0, 4, .inl m2)), (c3, .inl (dA 0, 30, .inl m3))] H := hP
    have hD : va_D A [(t0, .inr (4, [.ref c0, .ref c1, .ref c2, .int i0, .int x10, .int x19, .int x20, .int i4, .int i5, .int i6, .ref c3, .int i7, .int i8, .int i9])), (c0, .inl (dA 0, 4096, .inl m0)), (c1, .inl (dA 0, 8, .inl m1)), (c2, .inl (dA 0, 4, .inl m2)), (c3, .inl (dA 0, 30, .inl m3))] := hD
    refine lv_iload hx hb dX4_arithmetic_101 (lv_at hl 0 rfl) ?_
    refine lv_ldc hx hb hown (hg _ q1400) dX4_arithmetic_103 ?_
    refine lv_iand hx hb dX4_arithmetic_105 ?_
    refine lv_topi (fun x21 e22 => ?_)
    have g23 : 0 ≤ x21.toInt ∧ x21.toInt ≤ 65535 := g_msk e22 16 (by decide) (by decide) (by decide)
    exact g_iret hx hb hr rfl hlocks hK (x10, x19, x20) hP hD hS trivial (Nat.le_of_ble_eq_true rfl) (Nat.le_of_ble_eq_true rfl) dX4_arithmetic_106
  by_cases s24 : a0 = 1
  · have g25 : a0.toInt = 1 := by rw [s24]; decide
    refine lv_tableIn (tgt := 52) hx hb dX4_arithmetic_1 (by rw [s24]; decide) (by rw [s24]; decide) (by rw [s24]; rfl) (by decide) ?_
    refine lv_iload_n hx hb dX4_arithmetic_52 rfl (lv_at hl 2 rfl) ?_
    refine lv_iload_n hx hb dX4_arithmetic_53 rfl (lv_at hl 3 rfl) ?_
    refine lv_ior hx hb dX4_arithmetic_54 ?_
    refine lv_topi (fun x26 e27 => ?_)
    refine lv_istore (lv' := [(4, .int x26), (0, .ref t0), (1, .int a0), (2, .int a1), (3, .int a2)]) hx hb dX4_arithmetic_55 hl (by decide) rfl (fun ls hl => ?_)
    refine lv_goto (tgt := 81) hx hb dX4_arithmetic_57 (by decide) ?_
    refine lv_aload_n hx hb dX4_arithmetic_81 rfl (lv_at hl 1 rfl) ?_
    refine lv_iload hx hb dX4_arithmetic_82 (lv_at hl 0 rfl) ?_
    refine lv_bipush (v := 16) hx hb dX4_arithmetic_84 (by decide) ?_
    refine lv_ishr hx hb dX4_arithmetic_86 ?_
    refine lv_topi (fun x28 e29 => ?_)
    have g30 : x28.toInt * 65536 ≤ x26.toInt ∧ x26.toInt < x28.toInt * 65536 + 65536 := g_shr e29 16 (by decide) (by decide) (by decide)
    refine lv_iconst (v := 1) hx hb dX4_arithmetic_87 (by decide) ?_
    refine lv_iand hx hb dX4_arithmetic_88 ?_
    refine lv_topi (fun x31 e32 => ?_)
    have g33 : 0 ≤ x31.toInt ∧ x31.toInt ≤ 1 := g_msk e32 1 (by decide) (by decide) (by decide)
    refine g_put (w' := [(t0, .inr (4, [.ref c0, .ref c1, .ref c2, .int i0, .int x31, .int i2, .int i3, .int i4, .int i5, .int i6, .ref c3, .int i7, .int i8, .int i9])), (c0, .inl (dA 0, 4096, .inl m0)), (c1, .inl (dA 0, 8, .inl m1)), (c2, .inl (dA 0, 4, .inl m2)), (c3, .inl (dA 0, 30, .inl m3))]) hx hb hg hown hK hP hD hS 0 rfl rfl inX4 tyX4_ok nmX4 4 (by decide) q560 rfl rfl rfl (Nat.le_of_ble_eq_true rfl) rfl dX4_arithmetic_89 (fun H locs hP hD hS => ?_)
    refine lv_aload_n hx hb dX4_arithmetic_92 rfl (lv_at hl 1 rfl) ?_
    refine lv_iload hx hb dX4_arithmetic_93 (lv_at hl 0 rfl) ?_
    refine lv_ldc hx hb hown (hg _ q1400) dX4_arithmetic_95 ?_
    refine lv_iand hx hb dX4_arithmetic_97 ?_
    refine lv_topi (fun x34 e35 => ?_)
    have g36 : 0 ≤ x34.toInt ∧ x34.toInt ≤ 65535 := g_msk e35 16 (by decide) (by decide) (by decide)
    refine g_Vv (n := 1) (As := [.int x34]) (rest := []) (wr := []) hx hb hml hg hown hK hP hD hS hA (s_X4_judge l D dA t0 x34 c0 c1 c2 i0 x31 i2 i3 i4 i5 i6 c3 i7 i8 i9 m0 m1 m2 m3 (by omega) (by omega) (by omega) (by omega) p4 _) [0, 1, 2, 3, 4] [] rfl (by decide) rfl (by decide) (by decide) 0 rfl rfl q1451 q159 q1448 q1450 q64 (by decide +kernel) ⟨(Nat.le_of_ble_eq_true rfl), (Nat.le_of_ble_eq_true rfl)⟩ rfl hl.1 rfl (Nat.le_of_ble_eq_true rfl) dX4_arithmetic_98 ⟨(Nat.le_of_ble_eq_true rfl), (Nat.le_of_ble_eq_true rfl)⟩ (fun u37 H locs w39 hP hD hS => ?_)
    refine W.widen (k := 0) (n := 0) (Nat.le_of_ble_eq_true rfl) (Nat.le_of_ble_eq_true rfl) ?_
    obtain ⟨x40, x41⟩ := u37
    have hP : va_P D vwC [(t0, .inr (4, [.ref c0, .ref c1, .ref c2, .int i0, .int x31, .int x40, .int x41, .int i4, .int i5, .int i6, .ref c3, .int i7, .int i8, .int i9])), (c0, .inl (dA 0, 4096, .inl m0)), (c1, .inl (dA 0, 8, .inl m1)), (c2, .inl (dA 0, 4, .inl m2)), (c3, .inl (dA 0, 30, .inl m3))] H := hP
    have hD : va_D A [(t0, .inr (4, [.ref c0, .ref c1, .ref c2, .int i0, .int x31, .int x40, .int x41, .int i4, .int i5, .int i6, .ref c3, .int i7, .int i8, .int i9])), (c0, .inl (dA 0, 4096, .inl m0)), (c1, .inl (dA 0, 8, .inl m1)), (c2, .inl (dA 0, 4, .inl m2)), (c3, .inl (dA 0, 30, .inl m3))] := hD
    refine lv_iload hx hb dX4_arithmetic_101 (lv_at hl 0 rfl) ?_
    refine lv_ldc hx hb hown (hg _ q1400) dX4_arithmetic_103 ?_
    refine lv_iand hx hb dX4_arithmetic_105 ?_
    refine lv_topi (fun x42 e43 => ?_)
    have g44 : 0 ≤ x42.toInt ∧ x42.toInt ≤ 65535 := g_msk e43 16 (by decide) (by decide) (by decide)
    exact g_iret hx hb hr rfl hlocks hK (x31, x40, x41) hP hD hS trivial (Nat.le_of_ble_eq_true rfl) (Nat.le_of_ble_eq_true rfl) dX4_arithmetic_106
  by_cases s45 : a0 = 2
  · have g46 : a0.toInt = 2 := by rw [s45]; decide
    refine lv_tableIn (tgt := 76) hx hb dX4_arithmetic_1 (by rw [s45]; decide) (by rw [s45]; decide) (by rw [s45]; rfl) (by decide) ?_
    refine lv_iload_n hx hb dX4_arithmetic_76 rfl (lv_at hl 2 rfl) ?_
    refine lv_iload_n hx hb dX4_arithmetic_77 rfl (lv_at hl 3 rfl) ?_
    refine lv_isub hx hb dX4_arithmetic_78 ?_
    have g47 := g_i32 a1
    have g48 := g_i32 a2
    refine lv_topi (fun x49 e50 => ?_)
    refine lv_istore (lv' := [(4, .int x49), (0, .ref t0), (1, .int a0), (2, .int a1), (3, .int a2)]) hx hb dX4_arithmetic_79 hl (by decide) rfl (fun ls hl => ?_)
    refine lv_aload_n hx hb dX4_arithmetic_81 rfl (lv_at hl 1 rfl) ?_
    refine lv_iload hx hb dX4_arithmetic_82 (lv_at hl 0 rfl) ?_
    refine lv_bipush (v := 16) hx hb dX4_arithmetic_84 (by decide) ?_
    refine lv_ishr hx hb dX4_arithmetic_86 ?_
    refine lv_topi (fun x51 e52 => ?_)
    have g53 : x51.toInt * 65536 ≤ x49.toInt ∧ x49.toInt < x51.toInt * 65536 + 65536 := g_shr e52 16 (by decide) (by decide) (by decide)
    refine lv_iconst (v := 1) hx hb dX4_arithmetic_87 (by decide) ?_
    refine lv_iand hx hb dX4_arithmetic_88 ?_
    refine lv_topi (fun x54 e55 => ?_)
    have g56 : 0 ≤ x54.toInt ∧ x54.toInt ≤ 1 := g_msk e55 1 (by decide) (by decide) (by decide)
    refine g_put (w' := [(t0, .inr (4, [.ref c0, .ref c1, .ref c2, .int i0, .int x54, .int i2, .int i3, .int i4, .int i5, .int i6, .ref c3, .int i7, .int i8, .int i9])), (c0, .inl (dA 0, 4096, .inl m0)), (c1, .inl (dA 0, 8, .inl m1)), (c2, .inl (dA 0, 4, .inl m2)), (c3, .inl (dA 0, 30, .inl m3))]) hx hb hg hown hK hP hD hS 0 rfl rfl inX4 tyX4_ok nmX4 4 (by decide) q560 rfl rfl rfl (Nat.le_of_ble_eq_true rfl) rfl dX4_arithmetic_89 (fun H locs hP hD hS => ?_)
    refine lv_aload_n hx hb dX4_arithmetic_92 rfl (lv_at hl 1 rfl) ?_
    refine lv_iload hx hb dX4_arithmetic_93 (lv_at hl 0 rfl) ?_
    refine lv_ldc hx hb hown (hg _ q1400) dX4_arithmetic_95 ?_
    refine lv_iand hx hb dX4_arithmetic_97 ?_
    refine lv_topi (fun x57 e58 => ?_)
    have g59 : 0 ≤ x57.toInt ∧ x57.toInt ≤ 65535 := g_msk e58 16 (by decide) (by decide) (by decide)
    refine g_Vv (n := 1) (As := [.int x57]) (rest := []) (wr := []) hx hb hml hg hown hK hP hD hS hA (s_X4_judge l D dA t0 x57 c0 c1 c2 i0 x54 i2 i3 i4 i5 i6 c3 i7 i8 i9 m0 m1 m2 m3 (by omega) (by omega) (by omega) (by omega) p4 _) [0, 1, 2, 3, 4] [] rfl (by decide) rfl (by decide) (by decide) 0 rfl rfl q1451 q159 q1448 q1450 q64 (by decide +kernel) ⟨(Nat.le_of_ble_eq_true rfl), (Nat.le_of_ble_eq_true rfl)⟩ rfl hl.1 rfl (Nat.le_of_ble_eq_true rfl) dX4_arithmetic_98 ⟨(Nat.le_of_ble_eq_true rfl), (Nat.le_of_ble_eq_true rfl)⟩ (fun u60 H locs w62 hP hD hS => ?_)
    refine W.widen (k := 0) (n := 0) (Nat.le_of_ble_eq_true rfl) (Nat.le_of_ble_eq_true rfl) ?_
    obtain ⟨x63, x64⟩ := u60
    have hP : va_P D vwC [(t0, .inr (4, [.ref c0, .ref c1, .ref c2, .int i0, .int x54, .int x63, .int x64, .int i4, .int i5, .int i6, .ref c3, .int i7, .int i8, .int i9])), (c0, .inl (dA 0, 4096, .inl m0)), (c1, .inl (dA 0, 8, .inl m1)), (c2, .inl (dA 0, 4, .inl m2)), (c3, .inl (dA 0, 30, .inl m3))] H := hP
    have hD : va_D A [(t0, .inr (4, [.ref c0, .ref c1, .ref c2, .int i0, .int x54, .int x63, .int x64, .int i4, .int i5, .int i6, .ref c3, .int i7, .int i8, .int i9])), (c0, .inl (dA 0, 4096, .inl m0)), (c1, .inl (dA 0, 8, .inl m1)), (c2, .inl (dA 0, 4, .inl m2)), (c3, .inl (dA 0, 30, .inl m3))] := hD
    refine lv_iload hx hb dX4_arithmetic_101 (lv_at hl 0 rfl) ?_
    refine lv_ldc hx hb hown (hg _ q1400) dX4_arithmetic_103 ?_
    refine lv_iand hx hb dX4_arithmetic_105 ?_
    refine lv_topi (fun x65 e66 => ?_)
    have g67 : 0 ≤ x65.toInt ∧ x65.toInt ≤ 65535 := g_msk e66 16 (by decide) (by decide) (by decide)
    exact g_iret hx hb hr rfl hlocks hK (x54, x63, x64) hP hD hS trivial (Nat.le_of_ble_eq_true rfl) (Nat.le_of_ble_eq_true rfl) dX4_arithmetic_106
  by_cases s68 : a0 = 3
  · have g69 : a0.toInt = 3 := by rw [s68]; decide
    refine lv_tableIn (tgt := 76) hx hb dX4_arithmetic_1 (by rw [s68]; decide) (by rw [s68]; decide) (by rw [s68]; rfl) (by decide) ?_
    refine lv_iload_n hx hb dX4_arithmetic_76 rfl (lv_at hl 2 rfl) ?_
    refine lv_iload_n hx hb dX4_arithmetic_77 rfl (lv_at hl 3 rfl) ?_
    refine lv_isub hx hb dX4_arithmetic_78 ?_
    have g70 := g_i32 a1
    have g71 := g_i32 a2
    refine lv_topi (fun x72 e73 => ?_)
    refine lv_istore (lv' := [(4, .int x72), (0, .ref t0), (1, .int a0), (2, .int a1), (3, .int a2)]) hx hb dX4_arithmetic_79 hl (by decide) rfl (fun ls hl => ?_)
    refine lv_aload_n hx hb dX4_arithmetic_81 rfl (lv_at hl 1 rfl) ?_
    refine lv_iload hx hb dX4_arithmetic_82 (lv_at hl 0 rfl) ?_
    refine lv_bipush (v := 16) hx hb dX4_arithmetic_84 (by decide) ?_
    refine lv_ishr hx hb dX4_arithmetic_86 ?_
    refine lv_topi (fun x74 e75 => ?_)
    have g76 : x74.toInt * 65536 ≤ x72.toInt ∧ x72.toInt < x74.toInt * 65536 + 65536 := g_shr e75 16 (by decide) (by decide) (by decide)
    refine lv_iconst (v := 1) hx hb dX4_arithmetic_87 (by decide) ?_
    refine lv_iand hx hb dX4_arithmetic_88 ?_
    refine lv_topi (fun x77 e78 => ?_)
    have g79 : 0 ≤ x77.toInt ∧ x77.toInt ≤ 1 := g_msk e78 1 (by decide) (by decide) (by decide)
    refine g_put (w' := [(t0, .inr (4, [.ref c0, .ref c1, .ref c2, .int i0, .int x77, .int i2, .int i3, .int i4, .int i5, .int i6, .ref c3, .int i7, .int i8, .int i9])), (c0, .inl (dA 0, 4096, .inl m0)), (c1, .inl (dA 0, 8, .inl m1)), (c2, .inl (dA 0, 4, .inl m2)), (c3, .inl (dA 0, 30, .inl m3))]) hx hb hg hown hK hP hD hS 0 rfl rfl inX4 tyX4_ok nmX4 4 (by decide) q560 rfl rfl rfl (Nat.le_of_ble_eq_true rfl) rfl dX4_arithmetic_89 (fun H locs hP hD hS => ?_)
    refine lv_aload_n hx hb dX4_arithmetic_92 rfl (lv_at hl 1 rfl) ?_
    refine lv_iload hx hb dX4_arithmetic_93 (lv_at hl 0 rfl) ?_
    refine lv_ldc hx hb hown (hg _ q1400) dX4_arithmetic_95 ?_
    refine lv_iand hx hb dX4_arithmetic_97 ?_
    refine lv_topi (fun x80 e81 => ?_)
    have g82 : 0 ≤ x80.toInt ∧ x80.toInt ≤ 65535 := g_msk e81 16 (by decide) (by decide) (by decide)
    refine g_Vv (n := 1) (As := [.int x80]) (rest := []) (wr := []) hx hb hml hg hown hK hP hD hS hA (s_X4_judge l D dA t0 x80 c0 c1 c2 i0 x77 i2 i3 i4 i5 i6 c3 i7 i8 i9 m0 m1 m2 m3 (by omega) (by omega) (by omega) (by omega) p4 _) [0, 1, 2, 3, 4] [] rfl (by decide) rfl (by decide) (by decide) 0 rfl rfl q1451 q159 q1448 q1450 q64 (by decide +kernel) ⟨(Nat.le_of_ble_eq_true rfl), (Nat.le_of_ble_eq_true rfl)⟩ rfl hl.1 rfl (Nat.le_of_ble_eq_true rfl) dX4_arithmetic_98 ⟨(Nat.le_of_ble_eq_true rfl), (Nat.le_of_ble_eq_true rfl)⟩ (fun u83 H locs w85 hP hD hS => ?_)
    refine W.widen (k := 0) (n := 0) (Nat.le_of_ble_eq_true rfl) (Nat.le_of_ble_eq_true rfl) ?_
    obtain ⟨x86, x87⟩ := u83
    have hP : va_P D vwC [(t0, .inr (4, [.ref c0, .ref c1, .ref c2, .int i0, .int x77, .int x86, .int x87, .int i4, .int i5, .int i6, .ref c3, .int i7, .int i8, .int i9])), (c0, .inl (dA 0, 4096, .inl m0)), (c1, .inl (dA 0, 8, .inl m1)), (c2, .inl (dA 0, 4, .inl m2)), (c3, .inl (dA 0, 30, .inl m3))] H := hP
    have hD : va_D A [(t0, .inr (4, [.ref c0, .ref c1, .ref c2, .int i0, .int x77, .int x86, .int x87, .int i4, .int i5, .int i6, .ref c3, .int i7, .int i8, .int i9])), (c0, .inl (dA 0, 4096, .inl m0)), (c1, .inl (dA 0, 8, .inl m1)), (c2, .inl (dA 0, 4, .inl m2)), (c3, .inl (dA 0, 30, .inl m3))] := hD
    refine lv_iload hx hb dX4_arithmetic_101 (lv_at hl 0 rfl) ?_
    refine lv_ldc hx hb hown (hg _ q1400) dX4_arithmetic_103 ?_
    refine lv_iand hx hb dX4_arithmetic_105 ?_
    refine lv_topi (fun x88 e89 => ?_)
    have g90 : 0 ≤ x88.toInt ∧ x88.toInt ≤ 65535 := g_msk e89 16 (by decide) (by decide) (by decide)
    exact g_iret hx hb hr rfl hlocks hK (x77, x86, x87) hP hD hS trivial (Nat.le_of_ble_eq_true rfl) (Nat.le_of_ble_eq_true rfl) dX4_arithmetic_106
  by_cases s91 : a0 = 4
  · have g92 : a0.toInt = 4 := by rw [s91]; decide
    refine lv_tableIn (tgt := 60) hx hb dX4_arithmetic_1 (by rw [s91]; decide) (by rw [s91]; decide) (by rw [s91]; rfl) (by decide) ?_
    refine lv_iload_n hx hb dX4_arithmetic_60 rfl (lv_at hl 2 rfl) ?_
    refine lv_iload_n hx hb dX4_arithmetic_61 rfl (lv_at hl 3 rfl) ?_
    refine lv_iand hx hb dX4_arithmetic_62 ?_
    refine lv_topi (fun x93 e94 => ?_)
    refine lv_istore (lv' := [(4, .int x93), (0, .ref t0), (1, .int a0), (2, .int a1), (3, .int a2)]) hx hb dX4_arithmetic_63 hl (by decide) rfl (fun ls hl => ?_)
    refine lv_goto (tgt := 81) hx hb dX4_arithmetic_65 (by decide) ?_
    refine lv_aload_n hx hb dX4_arithmetic_81 rfl (lv_at hl 1 rfl) ?_
    refine lv_iload hx hb dX4_arithmetic_82 (lv_at hl 0 rfl) ?_
    refine lv_bipush (v := 16) hx hb dX4_arithmetic_84 (by decide) ?_
    refine lv_ishr hx hb dX4_arithmetic_86 ?_
    refine lv_topi (fun x95 e96 => ?_)
    have g97 : x95.toInt * 65536 ≤ x93.toInt ∧ x93.toInt < x95.toInt * 65536 + 65536 := g_shr e96 16 (by decide) (by decide) (by decide)
    refine lv_iconst (v := 1) hx hb dX4_arithmetic_87 (by decide) ?_
    refine lv_iand hx hb dX4_arithmetic_88 ?_
    refine lv_topi (fun x98 e99 => ?_)
    have g100 : 0 ≤ x98.toInt ∧ x98.toInt ≤ 1 := g_msk e99 1 (by decide) (by decide) (by decide)
    refine g_put (w' := [(t0, .inr (4, [.ref c0, .ref c1, .ref c2, .int i0, .int x98, .int i2, .int i3, .int i4, .int i5, .int i6, .ref c3, .int i7, .int i8, .int i9])), (c0, .inl (dA 0, 4096, .inl m0)), (c1, .inl (dA 0, 8, .inl m1)), (c2, .inl (dA 0, 4, .inl m2)), (c3, .inl (dA 0, 30, .inl m3))]) hx hb hg hown hK hP hD hS 0 rfl rfl inX4 tyX4_ok nmX4 4 (by decide) q560 rfl rfl rfl (Nat.le_of_ble_eq_true rfl) rfl dX4_arithmetic_89 (fun H locs hP hD hS => ?_)
    refine lv_aload_n hx hb dX4_arithmetic_92 rfl (lv_at hl 1 rfl) ?_
    refine lv_iload hx hb dX4_arithmetic_93 (lv_at hl 0 rfl) ?_
    refine lv_ldc hx hb hown (hg _ q1400) dX4_arithmetic_95 ?_
    refine lv_iand hx hb dX4_arithmetic_97 ?_
    refine lv_topi (fun x101 e102 => ?_)
    have g103 : 0 ≤ x101.toInt ∧ x101.toInt ≤ 65535 := g_msk e102 16 (by decide) (by decide) (by decide)
    refine g_Vv (n := 1) (As := [.int x101]) (rest := []) (wr := []) hx hb hml hg hown hK hP hD hS hA (s_X4_judge l D dA t0 x101 c0 c1 c2 i0 x98 i2 i3 i4 i5 i6 c3 i7 i8 i9 m0 m1 m2 m3 (by omega) (by omega) (by omega) (by omega) p4 _) [0, 1, 2, 3, 4] [] rfl (by decide) rfl (by decide) (by decide) 0 rfl rfl q1451 q159 q1448 q1450 q64 (by decide +kernel) ⟨(Nat.le_of_ble_eq_true rfl), (Nat.le_of_ble_eq_true rfl)⟩ rfl hl.1 rfl (Nat.le_of_ble_eq_true rfl) dX4_arithmetic_98 ⟨(Nat.le_of_ble_eq_true rfl), (Nat.le_of_ble_eq_true rfl)⟩ (fun u104 H locs w106 hP hD hS => ?_)
    refine W.widen (k := 0) (n := 0) (Nat.le_of_ble_eq_true rfl) (Nat.le_of_ble_eq_true rfl) ?_
    obtain ⟨x107, x108⟩ := u104
    have hP : va_P D vwC [(t0, .inr (4, [.ref c0, .ref c1, .ref c2, .int i0, .int x98, .int x107, .int x108, .int i4, .int i5, .int i6, .ref c3, .int i7, .int i8, .int i9])), (c0, .inl (dA 0, 4096, .inl m0)), (c1, .inl (dA 0, 8, .inl m1)), (c2, .inl (dA 0, 4, .inl m2)), (c3, .inl (dA 0, 30, .inl m3))] H := hP
    have hD : va_D A [(t0, .inr (4, [.ref c0, .ref c1, .ref c2, .int i0, .int x98, .int x107, .int x108, .int i4, .int i5, .int i6, .ref c3, .int i7, .int i8, .int i9])), (c0, .inl (dA 0, 4096, .inl m0)), (c1, .inl (dA 0, 8, .inl m1)), (c2, .inl (dA 0, 4, .inl m2)), (c3, .inl (dA 0, 30, .inl m3))] := hD
    refine lv_iload hx hb dX4_arithmetic_101 (lv_at hl 0 rfl) ?_
    refine lv_ldc hx hb hown (hg _ q1400) dX4_arithmetic_103 ?_
    refine lv_iand hx hb dX4_arithmetic_105 ?_
    refine lv_topi (fun x109 e110 => ?_)
    have g111 : 0 ≤ x109.toInt ∧ x109.toInt ≤ 65535 := g_msk e110 16 (by decide) (by decide) (by decide)
    exact g_iret hx hb hr rfl hlocks hK (x98, x107, x108) hP hD hS trivial (Nat.le_of_ble_eq_true rfl) (Nat.le_of_ble_eq_true rfl) dX4_arithmetic_106
  by_cases s112 : a0 = 5
  · have g113 : a0.toInt = 5 := by rw [s112]; decide
    refine lv_tableIn (tgt := 76) hx hb dX4_arithmetic_1 (by rw [s112]; decide) (by rw [s112]; decide) (by rw [s112]; rfl) (by decide) ?_
    refine lv_iload_n hx hb dX4_arithmetic_76 rfl (lv_at hl 2 rfl) ?_
    refine lv_iload_n hx hb dX4_arithmetic_77 rfl (lv_at hl 3 rfl) ?_
    refine lv_isub hx hb dX4_arithmetic_78 ?_
    have g114 := g_i32 a1
    have g115 := g_i32 a2
    refine lv_topi (fun x116 e117 => ?_)
    refine lv_istore (lv' := [(4, .int x116), (0, .ref t0), (1, .int a0), (2, .int a1), (3, .int a2)]) hx hb dX4_arithmetic_79 hl (by decide) rfl (fun ls hl => ?_)
    refine lv_aload_n hx hb dX4_arithmetic_81 rfl (lv_at hl 1 rfl) ?_
    refine lv_iload hx hb dX4_arithmetic_82 (lv_at hl 0 rfl) ?_
    refine lv_bipush (v := 16) hx hb dX4_arithmetic_84 (by decide) ?_
    refine lv_ishr hx hb dX4_arithmetic_86 ?_
    refine lv_topi (fun x118 e119 => ?_)
    have g120 : x118.toInt * 65536 ≤ x116.toInt ∧ x116.toInt < x118.toInt * 65536 + 65536 := g_shr e119 16 (by decide) (by decide) (by decide)
    refine lv_iconst (v := 1) hx hb dX4_arithmetic_87 (by decide) ?_
    refine lv_iand hx hb dX4_arithmetic_88 ?_
    refine lv_topi (fun x121 e122 => ?_)
    have g123 : 0 ≤ x121.toInt ∧ x121.toInt ≤ 1 := g_msk e122 1 (by decide) (by decide) (by decide)
    refine g_put (w' := [(t0, .inr (4, [.ref c0, .ref c1, .ref c2, .int i0, .int x121, .int i2, .int i3, .int i4, .int i5, .int i6, .ref c3, .int i7, .int i8, .int i9])), (c0, .inl (dA 0, 4096, .inl m0)), (c1, .inl (dA 0, 8, .inl m1)), (c2, .inl (dA 0, 4, .inl m2)), (c3, .inl (dA 0, 30, .inl m3))]) hx hb hg hown hK hP hD hS 0 rfl rfl inX4 tyX4_ok nmX4 4 (by decide) q560 rfl rfl rfl (Nat.le_of_ble_eq_true rfl) rfl dX4_arithmetic_89 (fun H locs hP hD hS => ?_)
    refine lv_aload_n hx hb dX4_arithmetic_92 rfl (lv_at hl 1 rfl) ?_
    refine lv_iload hx hb dX4_arithmetic_93 (lv_at hl 0 rfl) ?_
    refine lv_ldc hx hb hown (hg _ q1400) dX4_arithmetic_95 ?_
    refine lv_iand hx hb dX4_arithmetic_97 ?_
    refine lv_topi (fun x124 e125 => ?_)
    have g126 : 0 ≤ x124.toInt ∧ x124.toInt ≤ 65535 := g_msk e125 16 (by decide) (by decide) (by decide)
    refine g_Vv (n := 1) (As := [.int x124]) (rest := []) (wr := []) hx hb hml hg hown hK hP hD hS hA (s_X4_judge l D dA t0 x124 c0 c1 c2 i0 x121 i2 i3 i4 i5 i6 c3 i7 i8 i9 m0 m1 m2 m3 (by omega) (by omega) (by omega) (by omega) p4 _) [0, 1, 2, 3, 4] [] rfl (by decide) rfl (by decide) (by decide) 0 rfl rfl q1451 q159 q1448 q1450 q64 (by decide +kernel) ⟨(Nat.le_of_ble_eq_true rfl), (Nat.le_of_ble_eq_true rfl)⟩ rfl hl.1 rfl (Nat.le_of_ble_eq_true rfl) dX4_arithmetic_98 ⟨(Nat.le_of_ble_eq_true rfl), (Nat.le_of_ble_eq_true rfl)⟩ (fun u127 H locs w129 hP hD hS => ?_)
    refine W.widen (k := 0) (n := 0) (Nat.le_of_ble_eq_true rfl) (Nat.le_of_ble_eq_true rfl) ?_
    obtain ⟨x130, x131⟩ := u127
    have hP : va_P D vwC [(t0, .inr (4, [.ref c0, .ref c1, .ref c2, .int i0, .int x121, .int x130, .int x131, .int i4, .int i5, .int i6, .ref c3, .int i7, .int i8, .int i9])), (c0, .inl (dA 0, 4096, .inl m0)), (c1, .inl (dA 0, 8, .inl m1)), (c2, .inl (dA 0, 4, .inl m2)), (c3, .inl (dA 0, 30, .inl m3))] H := hP
    have hD : va_D A [(t0, .inr (4, [.ref c0, .ref c1, .ref c2, .int i0, .int x121, .int x130, .int x131, .int i4, .int i5, .int i6, .ref c3, .int i7, .int i8, .int i9])), (c0, .inl (dA 0, 4096, .inl m0)), (c1, .inl (dA 0, 8, .inl m1)), (c2, .inl (dA 0, 4, .inl m2)), (c3, .inl (dA 0, 30, .inl m3))] := hD
    refine lv_iload hx hb dX4_arithmetic_101 (lv_at hl 0 rfl) ?_
    refine lv_ldc hx hb hown (hg _ q1400) dX4_arithmetic_103 ?_
    refine lv_iand hx hb dX4_arithmetic_105 ?_
    refine lv_topi (fun x132 e133 => ?_)
    have g134 : 0 ≤ x132.toInt ∧ x132.toInt ≤ 65535 := g_msk e133 16 (by decide) (by decide) (by decide)
    exact g_iret hx hb hr rfl hlocks hK (x121, x130, x131) hP hD hS trivial (Nat.le_of_ble_eq_true rfl) (Nat.le_of_ble_eq_true rfl) dX4_arithmetic_106
  by_cases s135 : a0 = 6
  · have g136 : a0.toInt = 6 := by rw [s135]; decide
    refine lv_tableIn (tgt := 68) hx hb dX4_arithmetic_1 (by rw [s135]; decide) (by rw [s135]; decide) (by rw [s135]; rfl) (by decide) ?_
    refine lv_iload_n hx hb dX4_arithmetic_68 rfl (lv_at hl 2 rfl) ?_
    refine lv_iload_n hx hb dX4_arithmetic_69 rfl (lv_at hl 3 rfl) ?_
    refine lv_ixor hx hb dX4_arithmetic_70 ?_
    refine lv_topi (fun x137 e138 => ?_)
    refine lv_istore (lv' := [(4, .int x137), (0, .ref t0), (1, .int a0), (2, .int a1), (3, .int a2)]) hx hb dX4_arithmetic_71 hl (by decide) rfl (fun ls hl => ?_)
    refine lv_goto (tgt := 81) hx hb dX4_arithmetic_73 (by decide) ?_
    refine lv_aload_n hx hb dX4_arithmetic_81 rfl (lv_at hl 1 rfl) ?_
    refine lv_iload hx hb dX4_arithmetic_82 (lv_at hl 0 rfl) ?_
    refine lv_bipush (v := 16) hx hb dX4_arithmetic_84 (by decide) ?_
    refine lv_ishr hx hb dX4_arithmetic_86 ?_
    refine lv_topi (fun x139 e140 => ?_)
    have g141 : x139.toInt * 65536 ≤ x137.toInt ∧ x137.toInt < x139.toInt * 65536 + 65536 := g_shr e140 16 (by decide) (by decide) (by decide)
    refine lv_iconst (v := 1) hx hb dX4_arithmetic_87 (by decide) ?_
    refine lv_iand hx hb dX4_arithmetic_88 ?_
    refine lv_topi (fun x142 e143 => ?_)
    have g144 : 0 ≤ x142.toInt ∧ x142.toInt ≤ 1 := g_msk e143 1 (by decide) (by decide) (by decide)
    refine g_put (w' := [(t0, .inr (4, [.ref c0, .ref c1, .ref c2, .int i0, .int x142, .int i2, .int i3, .int i4, .int i5, .int i6, .ref c3, .int i7, .int i8, .int i9])), (c0, .inl (dA 0, 4096, .inl m0)), (c1, .inl (dA 0, 8, .inl m1)), (c2, .inl (dA 0, 4, .inl m2)), (c3, .inl (dA 0, 30, .inl m3))]) hx hb hg hown hK hP hD hS 0 rfl rfl inX4 tyX4_ok nmX4 4 (by decide) q560 rfl rfl rfl (Nat.le_of_ble_eq_true rfl) rfl dX4_arithmetic_89 (fun H locs hP hD hS => ?_)
    refine lv_aload_n hx hb dX4_arithmetic_92 rfl (lv_at hl 1 rfl) ?_
    refine lv_iload hx hb dX4_arithmetic_93 (lv_at hl 0 rfl) ?_
    refine lv_ldc hx hb hown (hg _ q1400) dX4_arithmetic_95 ?_
    refine lv_iand hx hb dX4_arithmetic_97 ?_
    refine lv_topi (fun x145 e146 => ?_)
    have g147 : 0 ≤ x145.toInt ∧ x145.toInt ≤ 65535 := g_msk e146 16 (by decide) (by decide) (by decide)
    refine g_Vv (n := 1) (As := [.int x145]) (rest := []) (wr := []) hx hb hml hg hown hK hP hD hS hA (s_X4_judge l D dA t0 x145 c0 c1 c2 i0 x142 i2 i3 i4 i5 i6 c3 i7 i8 i9 m0 m1 m2 m3 (by omega) (by omega) (by omega) (by omega) p4 _) [0, 1, 2, 3, 4] [] rfl (by decide) rfl (by decide) (by decide) 0 rfl rfl q1451 q159 q1448 q1450 q64 (by decide +kernel) ⟨(Nat.le_of_ble_eq_true rfl), (Nat.le_of_ble_eq_true rfl)⟩ rfl hl.1 rfl (Nat.le_of_ble_eq_true rfl) dX4_arithmetic_98 ⟨(Nat.le_of_ble_eq_true rfl), (Nat.le_of_ble_eq_true rfl)⟩ (fun u148 H locs w150 hP hD hS => ?_)
    refine W.widen (k := 0) (n := 0) (Nat.le_of_ble_eq_true rfl) (Nat.le_of_ble_eq_true rfl) ?_
    obtain ⟨x151, x152⟩ := u148
    have hP : va_P D vwC [(t0, .inr (4, [.ref c0, .ref c1, .ref c2, .int i0, .int x142, .int x151, .int x152, .int i4, .int i5, .int i6, .ref c3, .int i7, .int i8, .int i9])), (c0, .inl (dA 0, 4096, .inl m0)), (c1, .inl (dA 0, 8, .inl m1)), (c2, .inl (dA 0, 4, .inl m2)), (c3, .inl (dA 0, 30, .inl m3))] H := hP
    have hD : va_D A [(t0, .inr (4, [.ref c0, .ref c1, .ref c2, .int i0, .int x142, .int x151, .int x152, .int i4, .int i5, .int i6, .ref c3, .int i7, .int i8, .int i9])), (c0, .inl (dA 0, 4096, .inl m0)), (c1, .inl (dA 0, 8, .inl m1)), (c2, .inl (dA 0, 4, .inl m2)), (c3, .inl (dA 0, 30, .inl m3))] := hD
    refine lv_iload hx hb dX4_arithmetic_101 (lv_at hl 0 rfl) ?_
    refine lv_ldc hx hb hown (hg _ q1400) dX4_arithmetic_103 ?_
    refine lv_iand hx hb dX4_arithmetic_105 ?_
    refine lv_topi (fun x153 e154 => ?_)
    have g155 : 0 ≤ x153.toInt ∧ x153.toInt ≤ 65535 := g_msk e154 16 (by decide) (by decide) (by decide)
    exact g_iret hx hb hr rfl hlocks hK (x142, x151, x152) hP hD hS trivial (Nat.le_of_ble_eq_true rfl) (Nat.le_of_ble_eq_true rfl) dX4_arithmetic_106
  have g156 : a0.toInt ≠ 0 := lv_neT s1 (by decide)
  have g157 : a0.toInt ≠ 1 := lv_neT s24 (by decide)
  have g158 : a0.toInt ≠ 2 := lv_neT s45 (by decide)
  have g159 : a0.toInt ≠ 3 := lv_neT s68 (by decide)
  have g160 : a0.toInt ≠ 4 := lv_neT s91 (by decide)
  have g161 : a0.toInt ≠ 5 := lv_neT s112 (by decide)
  have g162 : a0.toInt ≠ 6 := lv_neT s135 (by decide)
  refine lv_tableOut (tgt := 76) hx hb dX4_arithmetic_1 (by omega) (by decide) ?_
  refine lv_iload_n hx hb dX4_arithmetic_76 rfl (lv_at hl 2 rfl) ?_
  refine lv_iload_n hx hb dX4_arithmetic_77 rfl (lv_at hl 3 rfl) ?_
  refine lv_isub hx hb dX4_arithmetic_78 ?_
  have g163 := g_i32 a1
  have g164 := g_i32 a2
  refine lv_topi (fun x165 e166 => ?_)
  refine lv_istore (lv' := [(4, .int x165), (0, .ref t0), (1, .int a0), (2, .int a1), (3, .int a2)]) hx hb dX4_arithmetic_79 hl (by decide) rfl (fun ls hl => ?_)
  refine lv_aload_n hx hb dX4_arithmetic_81 rfl (lv_at hl 1 rfl) ?_
  refine lv_iload hx hb dX4_arithmetic_82 (lv_at hl 0 rfl) ?_
  refine lv_bipush (v := 16) hx hb dX4_arithmetic_84 (by decide) ?_
  refine lv_ishr hx hb dX4_arithmetic_86 ?_
  refine lv_topi (fun x167 e168 => ?_)
  have g169 : x167.toInt * 65536 ≤ x165.toInt ∧ x165.toInt < x167.toInt * 65536 + 65536 := g_shr e168 16 (by decide) (by decide) (by decide)
  refine lv_iconst (v := 1) hx hb dX4_arithmetic_87 (by decide) ?_
  refine lv_iand hx hb dX4_arithmetic_88 ?_
  refine lv_topi (fun x170 e171 => ?_)
  have g172 : 0 ≤ x170.toInt ∧ x170.toInt ≤ 1 := g_msk e171 1 (by decide) (by decide) (by decide)
  refine g_put (w' := [(t0, .inr (4, [.ref c0, .ref c1, .ref c2, .int i0, .int x170, .int i2, .int i3, .int i4, .int i5, .int i6, .ref c3, .int i7, .int i8, .int i9])), (c0, .inl (dA 0, 4096, .inl m0)), (c1, .inl (dA 0, 8, .inl m1)), (c2, .inl (dA 0, 4, .inl m2)), (c3, .inl (dA 0, 30, .inl m3))]) hx hb hg hown hK hP hD hS 0 rfl rfl inX4 tyX4_ok nmX4 4 (by decide) q560 rfl rfl rfl (Nat.le_of_ble_eq_true rfl) rfl dX4_arithmetic_89 (fun H locs hP hD hS => ?_)
  refine lv_aload_n hx hb dX4_arithmetic_92 rfl (lv_at hl 1 rfl) ?_
  refine lv_iload hx hb dX4_arithmetic_93 (lv_at hl 0 rfl) ?_
  refine lv_ldc hx hb hown (hg _ q1400) dX4_arithmetic_95 ?_
  refine lv_iand hx hb dX4_arithmetic_97 ?_
  refine lv_topi (fun x173 e174 => ?_)
  have g175 : 0 ≤ x173.toInt ∧ x173.toInt ≤ 65535 := g_msk e174 16 (by decide) (by decide) (by decide)
  refine g_Vv (n := 1) (As := [.int x173]) (rest := []) (wr := []) hx hb hml hg hown hK hP hD hS hA (s_X4_judge l D dA t0 x173 c0 c1 c2 i0 x170 i2 i3 i4 i5 i6 c3 i7 i8 i9 m0 m1 m2 m3 (by omega) (by omega) (by omega) (by omega) p4 _) [0, 1, 2, 3, 4] [] rfl (by decide) rfl (by decide) (by decide) 0 rfl rfl q1451 q159 q1448 q1450 q64 (by decide +kernel) ⟨(Nat.le_of_ble_eq_true rfl), (Nat.le_of_ble_eq_true rfl)⟩ rfl hl.1 rfl (Nat.le_of_ble_eq_true rfl) dX4_arithmetic_98 ⟨(Nat.le_of_ble_eq_true rfl), (Nat.le_of_ble_eq_true rfl)⟩ (fun u176 H locs w178 hP hD hS => ?_)
  refine W.widen (k := 0) (n := 0) (Nat.le_of_ble_eq_true rfl) (Nat.le_of_ble_eq_true rfl) ?_
  obtain ⟨x179, x180⟩ := u176
  have hP : va_P D vwC [(t0, .inr (4, [.ref c0, .ref c1, .ref c2, .int i0, .int x170, .int x179, .int x180, .int i4, .int i5, .int i6, .ref c3, .int i7, .int i8, .int i9])), (c0, .inl (dA 0, 4096, .inl m0)), (c1, .inl (dA 0, 8, .inl m1)), (c2, .inl (dA 0, 4, .inl m2)), (c3, .inl (dA 0, 30, .inl m3))] H := hP
  have hD : va_D A [(t0, .inr (4, [.ref c0, .ref c1, .ref c2, .int i0, .int x170, .int x179, .int x180, .int i4, .int i5, .int i6, .ref c3, .int i7, .int i8, .int i9])), (c0, .inl (dA 0, 4096, .inl m0)), (c1, .inl (dA 0, 8, .inl m1)), (c2, .inl (dA 0, 4, .inl m2)), (c3, .inl (dA 0, 30, .inl m3))] := hD
  refine lv_iload hx hb dX4_arithmetic_101 (lv_at hl 0 rfl) ?_
  refine lv_ldc hx hb hown (hg _ q1400) dX4_arithmetic_103 ?_
  refine lv_iand hx hb dX4_arithmetic_105 ?_
  refine lv_topi (fun x181 e182 => ?_)
  have g183 : 0 ≤ x181.toInt ∧ x181.toInt ≤ 65535 := g_msk e182 16 (by decide) (by decide) (by decide)
  exact g_iret hx hb hr rfl hlocks hK (x170, x179, x180) hP hD hS trivial (Nat.le_of_ble_eq_true rfl) (Nat.le_of_ble_eq_true rfl) dX4_arithmetic_106
set_option maxHeartbeats 4000000 in
set_option maxRecDepth 100000 in
theorem s_X4_readM (l : Launch) (D : va_G) (dA : Nat → ClassId) (t0 : Nat) (c0 : Nat) (c1 : Nat) (c2 : Nat) (i0 : Int32) (i1 : Int32) (i2 : Int32) (i3 : Int32) (i4 : Int32) (i5 : Int32) (i6 : Int32) (c3 : Nat) (i7 : Int32) (i8 : Int32) (i9 : Int32) (m0 : Nat → Int32) (m1 : Nat → Int32) (m2 : Nat → Int32) (m3 : Nat → Int32) (p0 : 0 ≤ i4.toInt ∧ i4.toInt ≤ 1) (p1 : 0 ≤ i6.toInt ∧ i6.toInt ≤ 1000000) (p2 : 0 ≤ i7.toInt ∧ i7.toInt ≤ 7) (p3 : -1 ≤ i8.toInt ∧ i8.toInt ≤ 7) (p4 : ∀ j : Nat, 0 ≤ (m0 j).toInt ∧ (m0 j).toInt ≤ 255) (sz : Nat) : Met l yX4_readM (gws yX4_readM cX4_readM 1 (some .int)) (gR 2 0 0) (gPre D dA [.ref t0] [(t0, .inr (4, [.ref c0, .ref c1, .ref c2, .int i0, .int i1, .int i2, .int i3, .int i4, .int i5, .int i6, .ref c3, .int i7, .int i8, .int i9])), (c0, .inl (dA 0, 4096, .inl m0)), (c1, .inl (dA 0, 8, .inl m1)), (c2, .inl (dA 0, 4, .inl m2)), (c3, .inl (dA 0, 30, .inl m3))] sz) (va_Qi (fun (r : Int32) (u : Unit) => True) (gAt D dA (va_A [(t0, .inr (4, [.ref c0, .ref c1, .ref c2, .int i0, .int i1, .int i2, .int i3, .int i4, .int i5, .int i6, .ref c3, .int i7, .int i8, .int i9])), (c0, .inl (dA 0, 4096, .inl m0)), (c1, .inl (dA 0, 8, .inl m1)), (c2, .inl (dA 0, 4, .inl m2)), (c3, .inl (dA 0, 30, .inl m3))] sz) (fun u : Unit => [(t0, .inr (4, [.ref c0, .ref c1, .ref c2, .int i0, .int i1, .int i2, .int i3, .int i4, .int i5, .int i6, .ref c3, .int i7, .int i8, .int i9])), (c0, .inl (dA 0, 4096, .inl m0)), (c1, .inl (dA 0, 8, .inl m1)), (c2, .inl (dA 0, 4, .inl m2)), (c3, .inl (dA 0, 30, .inl m3))])) (va_A [(t0, .inr (4, [.ref c0, .ref c1, .ref c2, .int i0, .int i1, .int i2, .int i3, .int i4, .int i5, .int i6, .ref c3, .int i7, .int i8, .int i9])), (c0, .inl (dA 0, 4096, .inl m0)), (c1, .inl (dA 0, 8, .inl m1)), (c2, .inl (dA 0, 4, .inl m2)), (c3, .inl (dA 0, 30, .inl m3))] sz)) 0 0 (va_A [(t0, .inr (4, [.ref c0, .ref c1, .ref c2, .int i0, .int i1, .int i2, .int i3, .int i4, .int i5, .int i6, .ref c3, .int i7, .int i8, .int i9])), (c0, .inl (dA 0, 4096, .inl m0)), (c1, .inl (dA 0, 8, .inl m1)), (c2, .inl (dA 0, 4, .inl m2)), (c3, .inl (dA 0, 30, .inl m3))] sz) := by
  refine Met.ofW (cc := cX4_readM) (maxL := 1) (ret := (some .int)) (by decide) rfl ?_
  intro p e s m args below meth c s₁ B hml hv
  obtain ⟨rfl, hsz, hP, hK, hD0⟩ := hv
  have hx := B.exec
  have hb := B.bytes
  have hr := B.returns
  have hts := atoms_spec (ws := gws yX4_readM cX4_readM 1 (some .int)) B.pre
  have hg : ∀ w ∈ gw, w.before _ s = true := fun w h => hts w (List.mem_cons_of_mem _ h)
  have hown : s.vm.findClass RX4 = some m.cls := findClass_of_methodNamed B.named
  have hlocks := B.notSynchronized
  subst hsz
  have hD := hD0.self (sz := s.heap.size)
  generalize hAe : va_A [(t0, .inr (4, [.ref c0, .ref c1, .ref c2, .int i0, .int i1, .int i2, .int i3, .int i4, .int i5, .int i6, .ref c3, .int i7, .int i8, .int i9])), (c0, .inl (dA 0, 4096, .inl m0)), (c1, .inl (dA 0, 8, .inl m1)), (c2, .inl (dA 0, 4, .inl m2)), (c3, .inl (dA 0, 30, .inl m3))] s.heap.size = A at hD ⊢
  have hA : ∀ q : Nat, s.heap.size ≤ q → A q := fun q h => by rw [← hAe]; exact Or.inr h
  have hS : va_S A s.heap s.heap [] := va_S.rf
  have hP : va_P D vwC [(t0, .inr (4, [.ref c0, .ref c1, .ref c2, .int i0, .int i1, .int i2, .int i3, .int i4, .int i5, .int i6, .ref c3, .int i7, .int i8, .int i9])), (c0, .inl (dA 0, 4096, .inl m0)), (c1, .inl (dA 0, 8, .inl m1)), (c2, .inl (dA 0, 4, .inl m2)), (c3, .inl (dA 0, 30, .inl m3))] s.heap := hP
  have hl := lv_entry ([.ref t0]) (n := 1) (Nat.le_of_ble_eq_true rfl)
  rw [lg_entry_eq]
  generalize (lg_sl ([.ref t0]) ++ List.replicate (1 - (lg_sl ([.ref t0])).length) Slot.unset).toArray = ls at hl ⊢
  have hl : lv_has ls 1 [(0, .ref t0)] := hl
  refine lv_aload_n hx hb dX4_readM_0 rfl (lv_at hl 0 rfl) ?_
  refine g_get hx hb hg hown hK hP 0 rfl rfl inX4 12 (by decide) q575 rfl dX4_readM_1 ?_
  refine lv_if_lt (tgt := 19) hx hb dX4_readM_4 (by decide) (fun k1 => ?_) (fun k1 => ?_)
  · have g2 : i8.toInt < 0 := gi_lt (rfl : i8.toInt = i8.toInt) (by decide : (0 : Int32).toInt = 0) k1
    refine lv_aload_n hx hb dX4_readM_19 rfl (lv_at hl 0 rfl) ?_
    refine lv_aload_n hx hb dX4_readM_20 rfl (lv_at hl 0 rfl) ?_
    refine g_get hx hb hg hown hK hP 0 rfl rfl inX4 13 (by decide) q576 rfl dX4_readM_21 ?_
    refine g_Vi (n := 1) (As := [.int i9]) (rest := []) (wr := []) hx hb hml hg hown hK hP hD hS hA (s_X4_word l D dA t0 i9 c0 c1 c2 i0 i1 i2 i3 i4 i5 i6 c3 i7 i8 i9 m0 m1 m2 m3 (by omega) (by omega) (by omega) (by omega) p4 _) [0, 1, 2, 3, 4] [] rfl (by decide) rfl (by decide) (by decide) 0 rfl rfl q1378 q159 q1375 q1377 q50 (by decide +kernel) ⟨(Nat.le_of_ble_eq_true rfl), (Nat.le_of_ble_eq_true rfl)⟩ rfl hl.1 rfl (Nat.le_of_ble_eq_true rfl) dX4_readM_24 ⟨(Nat.le_of_ble_eq_true rfl), (Nat.le_of_ble_eq_true rfl)⟩ (fun x4 u3 H locs w5 hP hD hS => ?_)
    refine W.widen (k := 0) (n := 0) (Nat.le_of_ble_eq_true rfl) (Nat.le_of_ble_eq_true rfl) ?_
    have hP : va_P D vwC [(t0, .inr (4, [.ref c0, .ref c1, .ref c2, .int i0, .int i1, .int i2, .int i3, .int i4, .int i5, .int i6, .ref c3, .int i7, .int i8, .int i9])), (c0, .inl (dA 0, 4096, .inl m0)), (c1, .inl (dA 0, 8, .inl m1)), (c2, .inl (dA 0, 4, .inl m2)), (c3, .inl (dA 0, 30, .inl m3))] H := hP
    have hD : va_D A [(t0, .inr (4, [.ref c0, .ref c1, .ref c2, .int i0, .int i1, .int i2, .int i3, .int i4, .int i5, .int i6, .ref c3, .int i7, .int i8, .int i9])), (c0, .inl (dA 0, 4096, .inl m0)), (c1, .inl (dA 0, 8, .inl m1)), (c2, .inl (dA 0, 4, .inl m2)), (c3, .inl (dA 0, 30, .inl m3))] := hD
    exact g_iret hx hb hr rfl hlocks hK () hP hD hS trivial (Nat.le_of_ble_eq_true rfl) (Nat.le_of_ble_eq_true rfl) dX4_readM_27
  · have g6 : i8.toInt ≥ 0 := gi_nlt (rfl : i8.toInt = i8.toInt) (by decide : (0 : Int32).toInt = 0) k1
    refine lv_aload_n hx hb dX4_readM_7 rfl (lv_at hl 0 rfl) ?_
    refine g_get hx hb hg hown hK hP 0 rfl rfl inX4 1 (by decide) q554 rfl dX4_readM_8 ?_
    refine lv_aload_n hx hb dX4_readM_11 rfl (lv_at hl 0 rfl) ?_
    refine g_get hx hb hg hown hK hP 0 rfl rfl inX4 12 (by decide) q575 rfl dX4_readM_12 ?_
    refine va_iald hx hb hK hP 2 0 rfl rfl (by rw [vp_in_iff]; omega) dX4_readM_15 ?_
    refine lv_topi (fun x7 e8 => ?_)
    refine lv_goto (tgt := 27) hx hb dX4_readM_16 (by decide) ?_
    exact g_iret hx hb hr rfl hlocks hK () hP hD hS trivial (Nat.le_of_ble_eq_true rfl) (Nat.le_of_ble_eq_true rfl) dX4_readM_27
set_option maxHeartbeats 4000000 in
set_option maxRecDepth 100000 in
theorem s_X4_writeM (l : Launch) (D : va_G) (dA : Nat → ClassId) (t0 : Nat) (a0 : Int32) (c0 : Nat) (c1 : Nat) (c2 : Nat) (i0 : Int32) (i1 : Int32) (i2 : Int32) (i3 : Int32) (i4 : Int32) (i5 : Int32) (i6 : Int32) (c3 : Nat) (i7 : Int32) (i8 : Int32) (i9 : Int32) (m0 : Nat → Int32) (m1 : Nat → Int32) (m2 : Nat → Int32) (m3 : Nat → Int32) (p0 : 0 ≤ i4.toInt ∧ i4.toInt ≤ 1) (p1 : 0 ≤ i6.toInt ∧ i6.toInt ≤ 1000000) (p2 : 0 ≤ i7.toInt ∧ i7.toInt ≤ 7) (p3 : -1 ≤ i8.toInt ∧ i8.toInt ≤ 7) (p4 : ∀ j : Nat, 0 ≤ (m0 j).toInt ∧ (m0 j).toInt ≤ 255) (sz : Nat) : Met l yX4_writeM (gws yX4_writeM cX4_writeM 2 none) (gR 2 0 0) (gPre D dA [.ref t0, .int a0] [(t0, .inr (4, [.ref c0, .ref c1, .ref c2, .int i0, .int i1, .int i2, .int i3, .int i4, .int i5, .int i6, .ref c3, .int i7, .int i8, .int i9])), (c0, .inl (dA 0, 4096, .inl m0)), (c1, .inl (dA 0, 8, .inl m1)), (c2, .inl (dA 0, 4, .inl m2)), (c3, .inl (dA 0, 30, .inl m3))] sz) (va_Qv (fun u : (Nat → Int32) × (Nat → Int32) => (∀ j : Nat, 0 ≤ (u.1 j).toInt ∧ (u.1 j).toInt ≤ 255)) (gAt D dA (va_A [(t0, .inr (4, [.ref c0, .ref c1, .ref c2, .int i0, .int i1, .int i2, .int i3, .int i4, .int i5, .int i6, .ref c3, .int i7, .int i8, .int i9])), (c0, .inl (dA 0, 4096, .inl m0)), (c1, .inl (dA 0, 8, .inl m1)), (c2, .inl (dA 0, 4, .inl m2)), (c3, .inl (dA 0, 30, .inl m3))] sz) (fun u : (Nat → Int32) × (Nat → Int32) => [(t0, .inr (4, [.ref c0, .ref c1, .ref c2, .int i0, .int i1, .int i2, .int i3, .int i4, .int i5, .int i6, .ref c3, .int i7, .int i8, .int i9])), (c0, .inl (dA 0, 4096, .inl (u.1))), (c1, .inl (dA 0, 8, .inl (u.2))), (c2, .inl (dA 0, 4, .inl m2)), (c3, .inl (dA 0, 30, .inl m3))])) (va_A [(t0, .inr (4, [.ref c0, .ref c1, .ref c2, .int i0, .int i1, .int i2, .int i3, .int i4, .int i5, .int i6, .ref c3, .int i7, .int i8, .int i9])), (c0, .inl (dA 0, 4096, .inl m0)), (c1, .inl (dA 0, 8, .inl m1)), (c2, .inl (dA 0, 4, .inl m2)), (c3, .inl (dA 0, 30, .inl m3))] sz)) 0 0 (va_A [(t0, .inr (4, [.ref c0, .ref c1, .ref c2, .int i0, .int i1, .int i2, .int i3, .int i4, .int i5, .int i6, .ref c3, .int i7, .int i8, .int i9])), (c0, .inl (dA 0, 4096, .inl m0)), (c1, .inl (dA 0, 8, .inl m1)), (c2, .inl (dA 0, 4, .inl m2)), (c3, .inl (dA 0, 30, .inl m3))] sz) := by
  refine Met.ofW (cc := cX4_writeM) (maxL := 2) (ret := none) (by decide) rfl ?_
  intro p e s m args below meth c s₁ B hml hv
  obtain ⟨rfl, hsz, hP, hK, hD0⟩ := hv
  have hx := B.exec
  have hb := B.bytes
  have hr := B.returns
  have hts := atoms_spec (ws := gws yX4_writeM cX4_writeM 2 none) B.pre
  have hg : ∀ w ∈ gw, w.before _ s = true := fun w h => hts w (List.mem_cons_of_mem _ h)
  have hown : s.vm.findClass RX4 = some m.cls := findClass_of_methodNamed B.named
  have hlocks := B.notSynchronized
  subst hsz
  have hD := hD0.self (sz := s.heap.size)
  generalize hAe : va_A [(t0, .inr (4, [.ref c0, .ref c1, .ref c2, .int i0, .int i1, .int i2, .int i3, .int i4, .int i5, .int i6, .ref c3, .int i7, .int i8, .int i9])), (c0, .inl (dA 0, 4096, .inl m0)), (c1, .inl (dA 0, 8, .inl m1)), (c2, .inl (dA 0, 4, .inl m2)), (c3, .inl (dA 0, 30, .inl m3))] s.heap.size = A at hD ⊢
  have hA : ∀ q : Nat, s.heap.size ≤ q → A q := fun q h => by rw [← hAe]; exact Or.inr h
  have hS : va_S A s.heap s.heap [] := va_S.rf
  have hP : va_P D vwC [(t0, .inr (4, [.ref c0, .ref c1, .ref c2, .int i0, .int i1, .int i2, .int i3, .int i4, .int i5, .int i6, .ref c3, .int i7, .int i8, .int i9])), (c0, .inl (dA 0, 4096, .inl m0)), (c1, .inl (dA 0, 8, .inl m1)), (c2, .inl (dA 0, 4, .inl m2)), (c3, .inl (dA 0, 30, .inl m3))] s.heap := hP
  have hl := lv_entry ([.ref t0, .int a0]) (n := 2) (Nat.le_of_ble_eq_true rfl)
  rw [lg_entry_eq]
  generalize (lg_sl ([.ref t0, .int a0]) ++ List.replicate (2 - (lg_sl ([.ref t0, .int a0])).length) Slot.unset).toArray = ls at hl ⊢
  have hl : lv_has ls 2 [(0, .ref t0), (1, .int a0)] := hl
  refine lv_aload_n hx hb dX4_writeM_0 rfl (lv_at hl 0 rfl) ?_
  refine g_get hx hb hg hown hK hP 0 rfl rfl inX4 12 (by decide) q575 rfl dX4_writeM_1 ?_
  refine lv_if_lt (tgt := 23) hx hb dX4_writeM_4 (by decide) (fun k1 => ?_) (fun k1 => ?_)
  · have g2 : i8.toInt < 0 := gi_lt (rfl : i8.toInt = i8.toInt) (by decide : (0 : Int32).toInt = 0) k1
    refine lv_aload_n hx hb dX4_writeM_23 rfl (lv_at hl 0 rfl) ?_
    refine lv_aload_n hx hb dX4_writeM_24 rfl (lv_at hl 0 rfl) ?_
    refine g_get hx hb hg hown hK hP 0 rfl rfl inX4 13 (by decide) q576 rfl dX4_writeM_25 ?_
    refine lv_iload_n hx hb dX4_writeM_28 rfl (lv_at hl 1 rfl) ?_
    refine g_Vv (n := 2) (As := [.int i9, .int a0]) (rest := []) (wr := []) hx hb hml hg hown hK hP hD hS hA (s_X4_putWord l D dA t0 i9 a0 c0 c1 c2 i0 i1 i2 i3 i4 i5 i6 c3 i7 i8 i9 m0 m1 m2 m3 (by omega) (by omega) (by omega) (by omega) p4 _) [0, 1, 2, 3, 4] [] rfl (by decide) rfl (by decide) (by decide) 0 rfl rfl q1382 q159 q1379 q1381 q51 (by decide +kernel) ⟨(Nat.le_of_ble_eq_true rfl), (Nat.le_of_ble_eq_true rfl)⟩ rfl hl.1 rfl (Nat.le_of_ble_eq_true rfl) dX4_writeM_29 ⟨(Nat.le_of_ble_eq_true rfl), (Nat.le_of_ble_eq_true rfl)⟩ (fun u3 H locs w5 hP hD hS => ?_)
    refine W.widen (k := 0) (n := 0) (Nat.le_of_ble_eq_true rfl) (Nat.le_of_ble_eq_true rfl) ?_
    obtain ⟨f6, rfl⟩ : ∃ z, z = u3 := ⟨_, rfl⟩
    have hP : va_P D vwC [(t0, .inr (4, [.ref c0, .ref c1, .ref c2, .int i0, .int i1, .int i2, .int i3, .int i4, .int i5, .int i6, .ref c3, .int i7, .int i8, .int i9])), (c0, .inl (dA 0, 4096, .inl f6)), (c1, .inl (dA 0, 8, .inl m1)), (c2, .inl (dA 0, 4, .inl m2)), (c3, .inl (dA 0, 30, .inl m3))] H := hP
    have hD : va_D A [(t0, .inr (4, [.ref c0, .ref c1, .ref c2, .int i0, .int i1, .int i2, .int i3, .int i4, .int i5, .int i6, .ref c3, .int i7, .int i8, .int i9])), (c0, .inl (dA 0, 4096, .inl f6)), (c1, .inl (dA 0, 8, .inl m1)), (c2, .inl (dA 0, 4, .inl m2)), (c3, .inl (dA 0, 30, .inl m3))] := hD
    have g7 := w5
    have g7 : ∀ j : Nat, 0 ≤ (f6 j).toInt ∧ (f6 j).toInt ≤ 255 := g7
    exact g_vret hx hb hr hlocks hK (f6, m1) hP hD hS g7 (Nat.le_of_ble_eq_true rfl) (Nat.le_of_ble_eq_true rfl) dX4_writeM_32
  · have g8 : i8.toInt ≥ 0 := gi_nlt (rfl : i8.toInt = i8.toInt) (by decide : (0 : Int32).toInt = 0) k1
    refine lv_aload_n hx hb dX4_writeM_7 rfl (lv_at hl 0 rfl) ?_
    refine g_get hx hb hg hown hK hP 0 rfl rfl inX4 1 (by decide) q554 rfl dX4_writeM_8 ?_
    refine lv_aload_n hx hb dX4_writeM_11 rfl (lv_at hl 0 rfl) ?_
    refine g_get hx hb hg hown hK hP 0 rfl rfl inX4 12 (by decide) q575 rfl dX4_writeM_12 ?_
    refine lv_iload_n hx hb dX4_writeM_15 rfl (lv_at hl 1 rfl) ?_
    refine lv_ldc hx hb hown (hg _ q1400) dX4_writeM_16 ?_
    refine lv_iand hx hb dX4_writeM_18 ?_
    refine lv_topi (fun x9 e10 => ?_)
    have g11 : 0 ≤ x9.toInt ∧ x9.toInt ≤ 65535 := g_msk e10 16 (by decide) (by decide) (by decide)
    refine va_iast hx hb hK hP hD hS 2 0 rfl rfl (by rw [vp_in_iff]; omega) dX4_writeM_19 (fun H locs hP hD hS => ?_)
    have hP : va_P D vwC [(t0, .inr (4, [.ref c0, .ref c1, .ref c2, .int i0, .int i1, .int i2, .int i3, .int i4, .int i5, .int i6, .ref c3, .int i7, .int i8, .int i9])), (c0, .inl (dA 0, 4096, .inl m0)), (c1, .inl (dA 0, 8, .inl (upd m1 (i8 : Int32).toNatClampNeg x9))), (c2, .inl (dA 0, 4, .inl m2)), (c3, .inl (dA 0, 30, .inl m3))] H := hP
    have hD : va_D A [(t0, .inr (4, [.ref c0, .ref c1, .ref c2, .int i0, .int i1, .int i2, .int i3, .int i4, .int i5, .int i6, .ref c3, .int i7, .int i8, .int i9])), (c0, .inl (dA 0, 4096, .inl m0)), (c1, .inl (dA 0, 8, .inl (upd m1 (i8 : Int32).toNatClampNeg x9))), (c2, .inl (dA 0, 4, .inl m2)), (c3, .inl (dA 0, 30, .inl m3))] := hD
    obtain ⟨f12, ef12⟩ : ∃ f : Nat → Int32, f = (upd m1 (i8 : Int32).toNatClampNeg x9) := ⟨_, rfl⟩
    rw [← ef12] at hP hD
    refine lv_goto (tgt := 32) hx hb dX4_writeM_20 (by decide) ?_
    exact g_vret hx hb hr hlocks hK (m0, f12) hP hD hS p4 (Nat.le_of_ble_eq_true rfl) (Nat.le_of_ble_eq_true rfl) dX4_writeM_32
set_option maxHeartbeats 4000000 in
set_option maxRecDepth 100000 in
theorem s_X4_arithmeticOnM (l : Launch) (D : va_G) (dA : Nat → ClassId) (t0 : Nat) (a0 : Int32) (a1 : Int32) (c0 : Nat) (c1 : Nat) (c2 : Nat) (i0 : Int32) (i1 : Int32) (i2 : Int32) (i3 : Int32) (i4 : Int32) (i5 : Int32) (i6 : Int32) (c3 : Nat) (i7 : Int32) (i8 : Int32) (i9 : Int32) (m0 : Nat → Int32) (m1 : Nat → Int32) (m2 : Nat → Int32) (m3 : Nat → Int32) (p0 : 0 ≤ i4.toInt ∧ i4.toInt ≤ 1) (p1 : 0 ≤ i6.toInt ∧ i6.toInt ≤ 1000000) (p2 : 0 ≤ i7.toInt ∧ i7.toInt ≤ 7) (p3 : -1 ≤ i8.toInt ∧ i8.toInt ≤ 7) (p4 : ∀ j : Nat, 0 ≤ (m0 j).toInt ∧ (m0 j).toInt ≤ 255) (sz : Nat) : Met l yX4_arithmeticOnM (gws yX4_arithmeticOnM cX4_arithmeticOnM 4 none) (gR 3 0 0) (gPre D dA [.ref t0, .int a0, .int a1] [(t0, .inr (4, [.ref c0, .ref c1, .ref c2, .int i0, .int i1, .int i2, .int i3, .int i4, .int i5, .int i6, .ref c3, .int i7, .int i8, .int i9])), (c0, .inl (dA 0, 4096, .inl m0)), (c1, .inl (dA 0, 8, .inl m1)), (c2, .inl (dA 0, 4, .inl m2)), (c3, .inl (dA 0, 30, .inl m3))] sz) (va_Qv (fun u : Int32 × Int32 × Int32 × (Nat → Int32) × (Nat → Int32) => (∀ j : Nat, 0 ≤ (u.2.2.2.1 j).toInt ∧ (u.2.2.2.1 j).toInt ≤ 255)) (gAt D dA (va_A [(t0, .inr (4, [.ref c0, .ref c1, .ref c2, .int i0, .int i1, .int i2, .int i3, .int i4, .int i5, .int i6, .ref c3, .int i7, .int i8, .int i9])), (c0, .inl (dA 0, 4096, .inl m0)), (c1, .inl (dA 0, 8, .inl m1)), (c2, .inl (dA 0, 4, .inl m2)), (c3, .inl (dA 0, 30, .inl m3))] sz) (fun u : Int32 × Int32 × Int32 × (Nat → Int32) × (Nat → Int32) => [(t0, .inr (4, [.ref c0, .ref c1, .ref c2, .int i0, .int u.1, .int u.2.1, .int u.2.2.1, .int i4, .int i5, .int i6, .ref c3, .int i7, .int i8, .int i9])), (c0, .inl (dA 0, 4096, .inl (u.2.2.2.1))), (c1, .inl (dA 0, 8, .inl (u.2.2.2.2))), (c2, .inl (dA 0, 4, .inl m2)), (c3, .inl (dA 0, 30, .inl m3))])) (va_A [(t0, .inr (4, [.ref c0, .ref c1, .ref c2, .int i0, .int i1, .int i2, .int i3, .int i4, .int i5, .int i6, .ref c3, .int i7, .int i8, .int i9])), (c0, .inl (dA 0, 4096, .inl m0)), (c1, .inl (dA 0, 8, .inl m1)), (c2, .inl (dA 0, 4, .inl m2)), (c3, .inl (dA 0, 30, .inl m3))] sz)) 0 0 (va_A [(t0, .inr (4, [.ref c0, .ref c1, .ref c2, .int i0, .int i1, .int i2, .int i3, .int i4, .int i5, .int i6, .ref c3, .int i7, .int i8, .int i9])), (c0, .inl (dA 0, 4096, .inl m0)), (c1, .inl (dA 0, 8, .inl m1)), (c2, .inl (dA 0, 4, .inl m2)), (c3, .inl (dA 0, 30, .inl m3))] sz) := by
  refine Met.ofW (cc := cX4_arithmeticOnM) (maxL := 4) (ret := none) (by decide) rfl ?_
  intro p e s m args below meth c s₁ B hml hv
  obtain ⟨rfl, hsz, hP, hK, hD0⟩ := hv
  have hx := B.exec
  have hb := B.bytes
  have hr := B.returns
  have hts := atoms_spec (ws := gws yX4_arithmeticOnM cX4_arithmeticOnM 4 none) B.pre
  have hg : ∀ w ∈ gw, w.before _ s = true := fun w h => hts w (List.mem_cons_of_mem _ h)
  have hown : s.vm.findClass RX4 = some m.cls := findClass_of_methodNamed B.named
  have hlocks := B.notSynchronized
  subst hsz
  have hD := hD0.self (sz := s.heap.size)
  generalize hAe : va_A [(t0, .inr (4, [.ref c0, .ref c1, .ref c2, .int i0, .int i1, .int i2, .int i3, .int i4, .int i5, .int i6, .ref c3, .int i7, .int i8, .int i9])), (c0, .inl (dA 0, 4096, .inl m0)), (c1, .inl (dA 0, 8, .inl m1)), (c2, .inl (dA 0, 4, .inl m2)), (c3, .inl (dA 0, 30, .inl m3))] s.heap.size = A at hD ⊢
  have hA : ∀ q : Nat, s.heap.size ≤ q → A q := fun q h => by rw [← hAe]; exact Or.inr h
  have hS : va_S A s.heap s.heap [] := va_S.rf
  have hP : va_P D vwC [(t0, .inr (4, [.ref c0, .ref c1, .ref c2, .int i0, .int i1, .int i2, .int i3, .int i4, .int i5, .int i6, .ref c3, .int i7, .int i8, .int i9])), (c0, .inl (dA 0, 4096, .inl m0)), (c1, .inl (dA 0, 8, .inl m1)), (c2, .inl (dA 0, 4, .inl m2)), (c3, .inl (dA 0, 30, .inl m3))] s.heap := hP
  have hl := lv_entry ([.ref t0, .int a0, .int a1]) (n := 4) (Nat.le_of_ble_eq_true rfl)
  rw [lg_entry_eq]
  generalize (lg_sl ([.ref t0, .int a0, .int a1]) ++ List.replicate (4 - (lg_sl ([.ref t0, .int a0, .int a1])).length) Slot.unset).toArray = ls at hl ⊢
  have hl : lv_has ls 4 [(0, .ref t0), (1, .int a0), (2, .int a1)] := hl
  refine lv_aload_n hx hb dX4_arithmeticOnM_0 rfl (lv_at hl 0 rfl) ?_
  refine lv_iload_n hx hb dX4_arithmeticOnM_1 rfl (lv_at hl 1 rfl) ?_
  refine lv_aload_n hx hb dX4_arithmeticOnM_2 rfl (lv_at hl 0 rfl) ?_
  refine g_Vi (n := 0) (As := []) (rest := [.int a0, .ref t0]) (wr := []) hx hb hml hg hown hK hP hD hS hA (s_X4_readM l D dA t0 c0 c1 c2 i0 i1 i2 i3 i4 i5 i6 c3 i7 i8 i9 m0 m1 m2 m3 (by omega) (by omega) (by omega) (by omega) p4 _) [0, 1, 2, 3, 4] [] rfl (by decide) rfl (by decide) (by decide) 0 rfl rfl q1443 q159 q1440 q1442 q62 (by decide +kernel) ⟨(Nat.le_of_ble_eq_true rfl), (Nat.le_of_ble_eq_true rfl)⟩ rfl hl.1 rfl (Nat.le_of_ble_eq_true rfl) dX4_arithmeticOnM_3 ⟨(Nat.le_of_ble_eq_true rfl), (Nat.le_of_ble_eq_true rfl)⟩ (fun x2 u1 H locs w3 hP hD hS => ?_)
  refine W.widen (k := 0) (n := 0) (Nat.le_of_ble_eq_true rfl) (Nat.le_of_ble_eq_true rfl) ?_
  have hP : va_P D vwC [(t0, .inr (4, [.ref c0, .ref c1, .ref c2, .int i0, .int i1, .int i2, .int i3, .int i4, .int i5, .int i6, .ref c3, .int i7, .int i8, .int i9])), (c0, .inl (dA 0, 4096, .inl m0)), (c1, .inl (dA 0, 8, .inl m1)), (c2, .inl (dA 0, 4, .inl m2)), (c3, .inl (dA 0, 30, .inl m3))] H := hP
  have hD : va_D A [(t0, .inr (4, [.ref c0, .ref c1, .ref c2, .int i0, .int i1, .int i2, .int i3, .int i4, .int i5, .int i6, .ref c3, .int i7, .int i8, .int i9])), (c0, .inl (dA 0, 4096, .inl m0)), (c1, .inl (dA 0, 8, .inl m1)), (c2, .inl (dA 0, 4, .inl m2)), (c3, .inl (dA 0, 30, .inl m3))] := hD
  refine lv_iload_n hx hb dX4_arithmeticOnM_6 rfl (lv_at hl 2 rfl) ?_
  refine g_Vi (n := 3) (As := [.int a0, .int x2, .int a1]) (rest := []) (wr := []) hx hb hml hg hown hK hP hD hS hA (s_X4_arithmetic l D dA t0 a0 x2 a1 c0 c1 c2 i0 i1 i2 i3 i4 i5 i6 c3 i7 i8 i9 m0 m1 m2 m3 (by omega) (by omega) (by omega) (by omega) p4 _) [0, 1, 2, 3, 4] [] rfl (by decide) rfl (by decide) (by decide) 0 rfl rfl q1447 q159 q1444 q1446 q63 (by decide +kernel) ⟨(Nat.le_of_ble_eq_true rfl), (Nat.le_of_ble_eq_true rfl)⟩ rfl hl.1 rfl (Nat.le_of_ble_eq_true rfl) dX4_arithmeticOnM_7 ⟨(Nat.le_of_ble_eq_true rfl), (Nat.le_of_ble_eq_true rfl)⟩ (fun x5 u4 H locs w6 hP hD hS => ?_)
  refine W.widen (k := 0) (n := 0) (Nat.le_of_ble_eq_true rfl) (Nat.le_of_ble_eq_true rfl) ?_
  obtain ⟨x7, x8, x9⟩ := u4
  have hP : va_P D vwC [(t0, .inr (4, [.ref c0, .ref c1, .ref c2, .int i0, .int x7, .int x8, .int x9, .int i4, .int i5, .int i6, .ref c3, .int i7, .int i8, .int i9])), (c0, .inl (dA 0, 4096, .inl m0)), (c1, .inl (dA 0, 8, .inl m1)), (c2, .inl (dA 0, 4, .inl m2)), (c3, .inl (dA 0, 30, .inl m3))] H := hP
  have hD : va_D A [(t0, .inr (4, [.ref c0, .ref c1, .ref c2, .int i0, .int x7, .int x8, .int x9, .int i4, .int i5, .int i6, .ref c3, .int i7, .int i8, .int i9])), (c0, .inl (dA 0, 4096, .inl m0)), (c1, .inl (dA 0, 8, .inl m1)), (c2, .inl (dA 0, 4, .inl m2)), (c3, .inl (dA 0, 30, .inl m3))] := hD
  refine lv_istore_n (lv' := [(3, .int x5), (0, .ref t0), (1, .int a0), (2, .int a1)]) hx hb dX4_arithmeticOnM_10 rfl hl (by decide) rfl (fun ls hl => ?_)
  refine lv_iload_n hx hb dX4_arithmeticOnM_11 rfl (lv_at hl 2 rfl) ?_
  refine lv_bipush (v := 7) hx hb dX4_arithmeticOnM_12 (by decide) ?_
  refine lv_icmp_eq (tgt := 22) hx hb dX4_arithmeticOnM_14 (by decide) (fun k10 => ?_) (fun k10 => ?_)
  · have g11 : a0.toInt = 7 := gi_eq (rfl : a0.toInt = a0.toInt) (by decide : (7 : Int32).toInt = 7) k10
    exact g_vret hx hb hr hlocks hK (x7, x8, x9, m0, m1) hP hD hS p4 (Nat.le_of_ble_eq_true rfl) (Nat.le_of_ble_eq_true rfl) dX4_arithmeticOnM_22
  · have g12 : a0.toInt ≠ 7 := gi_neq (rfl : a0.toInt = a0.toInt) (by decide : (7 : Int32).toInt = 7) k10
    refine lv_aload_n hx hb dX4_arithmeticOnM_17 rfl (lv_at hl 1 rfl) ?_
    refine lv_iload_n hx hb dX4_arithmeticOnM_18 rfl (lv_at hl 0 rfl) ?_
    refine g_Vv (n := 1) (As := [.int x5]) (rest := []) (wr := []) hx hb hml hg hown hK hP hD hS hA (s_X4_writeM l D dA t0 x5 c0 c1 c2 i0 x7 x8 x9 i4 i5 i6 c3 i7 i8 i9 m0 m1 m2 m3 (by omega) (by omega) (by omega) (by omega) p4 _) [0, 1, 2, 3, 4] [] rfl (by decide) rfl (by decide) (by decide) 0 rfl rfl q1455 q159 q1452 q1454 q65 (by decide +kernel) ⟨(Nat.le_of_ble_eq_true rfl), (Nat.le_of_ble_eq_true rfl)⟩ rfl hl.1 rfl (Nat.le_of_ble_eq_true rfl) dX4_arithmeticOnM_19 ⟨(Nat.le_of_ble_eq_true rfl), (Nat.le_of_ble_eq_true rfl)⟩ (fun u13 H locs w15 hP hD hS => ?_)
    refine W.widen (k := 0) (n := 0) (Nat.le_of_ble_eq_true rfl) (Nat.le_of_ble_eq_true rfl) ?_
    obtain ⟨f16, f17⟩ := u13
    have hP : va_P D vwC [(t0, .inr (4, [.ref c0, .ref c1, .ref c2, .int i0, .int x7, .int x8, .int x9, .int i4, .int i5, .int i6, .ref c3, .int i7, .int i8, .int i9])), (c0, .inl (dA 0, 4096, .inl f16)), (c1, .inl (dA 0, 8, .inl f17)), (c2, .inl (dA 0, 4, .inl m2)), (c3, .inl (dA 0, 30, .inl m3))] H := hP
    have hD : va_D A [(t0, .inr (4, [.ref c0, .ref c1, .ref c2, .int i0, .int x7, .int x8, .int x9, .int i4, .int i5, .int i6, .ref c3, .int i7, .int i8, .int i9])), (c0, .inl (dA 0, 4096, .inl f16)), (c1, .inl (dA 0, 8, .inl f17)), (c2, .inl (dA 0, 4, .inl m2)), (c3, .inl (dA 0, 30, .inl m3))] := hD
    have g18 := w15
    have g18 : ∀ j : Nat, 0 ≤ (f16 j).toInt ∧ (f16 j).toInt ≤ 255 := g18
    exact g_vret hx hb hr hlocks hK (x7, x8, x9, f16, f17) hP hD hS g18 (Nat.le_of_ble_eq_true rfl) (Nat.le_of_ble_eq_true rfl) dX4_arithmeticOnM_22
