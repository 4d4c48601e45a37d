theorem q308 : Cond.fieldLink RX0 59 "SegmentBench$Operand" "kind" "I" ∈ gw := gw_in (i := 308) (by decide +kernel) rfl
theorem q311 : Cond.fieldLink RX0 62 "SegmentBench$Operand" "code" "I" ∈ gw := gw_in (i := 311) (by decide +kernel) rfl
theorem q314 : Cond.fieldLink RX0 45 "SegmentBench$Operand" "numbe\x72" "I" ∈ gw := gw_in (i := 314) (by decide +kernel) rfl
theorem q317 : Cond.fieldLink RX0 41 "SegmentBench$Operand" "name" "I" ∈ gw := gw_in (i := 317) (by decide +kernel) rfl
theorem q320 : Cond.fieldLink RX0 52 "SegmentBench$Operand" "namePlace" "I" ∈ gw := gw_in (i := 320) (by decide +kernel) rfl
theorem q323 : Cond.fieldLink RX0 48 "SegmentBench$Operand" "paragraph" "Z" ∈ gw := gw_in (i := 323) (by decide +kernel) rfl
theorem q1021 : Cond.instanceMethod yX0_addValue ∈ gw := gw_in (i := 1021) (by decide +kernel) rfl
theorem q1022 : Cond.selects RX0 yX0_addValue yX0_addValue ∈ gw := gw_in (i := 1022) (by decide +kernel) rfl
theorem q1023 : Cond.code yX0_addValue cX0_addValue 2 none ∈ gw := gw_in (i := 1023) (by decide +kernel) rfl
theorem q1047 : Cond.methodLink RX0 55 yX0_addByte ∈ gw := gw_in (i := 1047) (by decide +kernel) rfl
theorem q1048 : Cond.instanceMethod yX0_addByte ∈ gw := gw_in (i := 1048) (by decide +kernel) rfl
theorem q1049 : Cond.selects RX0 yX0_addByte yX0_addByte ∈ gw := gw_in (i := 1049) (by decide +kernel) rfl
theorem q1050 : Cond.code yX0_addByte cX0_addByte 2 none ∈ gw := gw_in (i := 1050) (by decide +kernel) rfl
theorem q1051 : Cond.methodLink RX0 65 yX7_displacementSize ∈ gw := gw_in (i := 1051) (by decide +kernel) rfl
theorem q1052 : Cond.instanceMethod yX7_displacementSize ∈ gw := gw_in (i := 1052) (by decide +kernel) rfl
theorem q1053 : Cond.selects RX7 yX7_displacementSize yX7_displacementSize ∈ gw := gw_in (i := 1053) (by decide +kernel) rfl
theorem q1054 : Cond.code yX7_displacementSize cX7_displacementSize 2 (some .int) ∈ gw := gw_in (i := 1054) (by decide +kernel) rfl
theorem q1070 : Cond.methodLink RX0 69 yX7_isBare ∈ gw := gw_in (i := 1070) (by decide +kernel) rfl
theorem q1071 : Cond.methodLink RX0 73 yX7_mode ∈ gw := gw_in (i := 1071) (by decide +kernel) rfl
theorem q1072 : Cond.methodLink RX0 76 yX0_addValue ∈ gw := gw_in (i := 1072) (by decide +kernel) rfl
theorem dX0_addValue_0 : decode cX0_addValue 0 = .ok (.aload_n 1, 1) := by decide +kernel
theorem dX0_addValue_1 : decode cX0_addValue 1 = .ok (.getfield 41, 3) := by decide +kernel
theorem dX0_addValue_4 : decode cX0_addValue 4 = .ok (.ifCond .ge 19, 3) := by decide +kernel
theorem dX0_addValue_23 : decode cX0_addValue 23 = .ok (.aload_n 0, 1) := by decide +kernel
theorem dX0_addValue_24 : decode cX0_addValue 24 = .ok (.aload_n 1, 1) := by decide +kernel
theorem dX0_addValue_25 : decode cX0_addValue 25 = .ok (.getfield 48, 3) := by decide +kernel
theorem dX0_addValue_28 : decode cX0_addValue 28 = .ok (.ifCond .eq 8, 3) := by decide +kernel
theorem dX0_addValue_36 : decode cX0_addValue 36 = .ok (.bipush 7, 2) := by decide +kernel
theorem dX0_addValue_38 : decode cX0_addValue 38 = .ok (.aload_n 1, 1) := by decide +kernel
theorem dX0_addValue_39 : decode cX0_addValue 39 = .ok (.getfield 45, 3) := by decide +kernel
theorem dX0_addValue_42 : decode cX0_addValue 42 = .ok (.aload_n 1, 1) := by decide +kernel
theorem dX0_addValue_43 : decode cX0_addValue 43 = .ok (.getfield 41, 3) := by decide +kernel
theorem dX0_addValue_46 : decode cX0_addValue 46 = .ok (.aload_n 1, 1) := by decide +kernel
theorem dX0_addValue_47 : decode cX0_addValue 47 = .ok (.getfield 52, 3) := by decide +kernel
theorem dX0_addValue_50 : decode cX0_addValue 50 = .ok (.iconst (-1), 1) := by decide +kernel
theorem dX0_addValue_51 : decode cX0_addValue 51 = .ok (.invokevirtual 37, 3) := by decide +kernel
theorem dX0_addValue_54 : decode cX0_addValue 54 = .ok (.return_, 1) := by decide +kernel
theorem dX0_addValue_31 : decode cX0_addValue 31 = .ok (.bipush 8, 2) := by decide +kernel
theorem dX0_addValue_33 : decode cX0_addValue 33 = .ok (.goto 5, 3) := by decide +kernel
theorem dX0_addValue_7 : decode cX0_addValue 7 = .ok (.aload_n 0, 1) := by decide +kernel
theorem dX0_addValue_8 : decode cX0_addValue 8 = .ok (.bipush 6, 2) := by decide +kernel
theorem dX0_addValue_10 : decode cX0_addValue 10 = .ok (.aload_n 1, 1) := by decide +kernel
theorem dX0_addValue_11 : decode cX0_addValue 11 = .ok (.getfield 45, 3) := by decide +kernel
theorem dX0_addValue_14 : decode cX0_addValue 14 = .ok (.iconst (-1), 1) := by decide +kernel
theorem dX0_addValue_15 : decode cX0_addValue 15 = .ok (.iconst (-1), 1) := by decide +kernel
theorem dX0_addValue_16 : decode cX0_addValue 16 = .ok (.iconst (-1), 1) := by decide +kernel
theorem dX0_addValue_17 : decode cX0_addValue 17 = .ok (.invokevirtual 37, 3) := by decide +kernel
theorem dX0_addValue_20 : decode cX0_addValue 20 = .ok (.goto 34, 3) := by decide +kernel
theorem dX0_addWithM_0 : decode cX0_addWithM 0 = .ok (.aload_n 0, 1) := by decide +kernel
theorem dX0_addWithM_1 : decode cX0_addWithM 1 = .ok (.iload_n 1, 1) := by decide +kernel
theorem dX0_addWithM_2 : decode cX0_addWithM 2 = .ok (.invokevirtual 55, 3) := by decide +kernel
theorem dX0_addWithM_5 : decode cX0_addWithM 5 = .ok (.aload_n 2, 1) := by decide +kernel
theorem dX0_addWithM_6 : decode cX0_addWithM 6 = .ok (.getfield 59, 3) := by decide +kernel
theorem dX0_addWithM_9 : decode cX0_addWithM 9 = .ok (.iconst 1, 1) := by decide +kernel
theorem dX0_addWithM_10 : decode cX0_addWithM 10 = .ok (.if_icmp .ne 21, 3) := by decide +kernel
theorem dX0_addWithM_31 : decode cX0_addWithM 31 = .ok (.aload_n 2, 1) := by decide +kernel
theorem dX0_addWithM_32 : decode cX0_addWithM 32 = .ok (.invokevirtual 65, 3) := by decide +kernel
theorem dX0_addWithM_35 : decode cX0_addWithM 35 = .ok (.istore 4, 2) := by decide +kernel
theorem dX0_addWithM_37 : decode cX0_addWithM 37 = .ok (.aload_n 0, 1) := by decide +kernel
theorem dX0_addWithM_38 : decode cX0_addWithM 38 = .ok (.bipush 64, 2) := by decide +kernel
theorem dX0_addWithM_40 : decode cX0_addWithM 40 = .ok (.aload_n 2, 1) := by decide +kernel
theorem dX0_addWithM_41 : decode cX0_addWithM 41 = .ok (.invokevirtual 69, 3) := by decide +kernel
theorem dX0_addWithM_44 : decode cX0_addWithM 44 = .ok (.ifCond .eq 7, 3) := by decide +kernel
theorem dX0_addWithM_51 : decode cX0_addWithM 51 = .ok (.iload 4, 2) := by decide +kernel
theorem dX0_addWithM_53 : decode cX0_addWithM 53 = .ok (.imul, 1) := by decide +kernel
theorem dX0_addWithM_54 : decode cX0_addWithM 54 = .ok (.bipush 8, 2) := by decide +kernel
theorem dX0_addWithM_56 : decode cX0_addWithM 56 = .ok (.iload_n 3, 1) := by decide +kernel
theorem dX0_addWithM_57 : decode cX0_addWithM 57 = .ok (.imul, 1) := by decide +kernel
theorem dX0_addWithM_58 : decode cX0_addWithM 58 = .ok (.iadd, 1) := by decide +kernel
theorem dX0_addWithM_59 : decode cX0_addWithM 59 = .ok (.aload_n 2, 1) := by decide +kernel
theorem dX0_addWithM_60 : decode cX0_addWithM 60 = .ok (.invokevirtual 73, 3) := by decide +kernel
theorem dX0_addWithM_63 : decode cX0_addWithM 63 = .ok (.iadd, 1) := by decide +kernel
theorem dX0_addWithM_64 : decode cX0_addWithM 64 = .ok (.invokevirtual 55, 3) := by decide +kernel
theorem dX0_addWithM_67 : decode cX0_addWithM 67 = .ok (.iload 4, 2) := by decide +kernel
theorem dX0_addWithM_69 : decode cX0_addWithM 69 = .ok (.iconst 1, 1) := by decide +kernel
theorem dX0_addWithM_70 : decode cX0_addWithM 70 = .ok (.if_icmp .ne 14, 3) := by decide +kernel
theorem dX0_addWithM_84 : decode cX0_addWithM 84 = .ok (.iload 4, 2) := by decide +kernel
theorem dX0_addWithM_86 : decode cX0_addWithM 86 = .ok (.iconst 2, 1) := by decide +kernel
theorem dX0_addWithM_87 : decode cX0_addWithM 87 = .ok (.if_icmp .ne 8, 3) := by decide +kernel
theorem dX0_addWithM_95 : decode cX0_addWithM 95 = .ok (.return_, 1) := by decide +kernel
theorem dX0_addWithM_90 : decode cX0_addWithM 90 = .ok (.aload_n 0, 1) := by decide +kernel
theorem dX0_addWithM_91 : decode cX0_addWithM 91 = .ok (.aload_n 2, 1) := by decide +kernel
theorem dX0_addWithM_92 : decode cX0_addWithM 92 = .ok (.invokevirtual 76, 3) := by decide +kernel
theorem dX0_addWithM_73 : decode cX0_addWithM 73 = .ok (.aload_n 0, 1) := by decide +kernel
theorem dX0_addWithM_74 : decode cX0_addWithM 74 = .ok (.aload_n 2, 1) := by decide +kernel
theorem dX0_addWithM_75 : decode cX0_addWithM 75 = .ok (.getfield 45, 3) := by decide +kernel
theorem dX0_addWithM_78 : decode cX0_addWithM 78 = .ok (.invokevirtual 55, 3) := by decide +kernel
theorem dX0_addWithM_81 : decode cX0_addWithM 81 = .ok (.goto 14, 3) := by decide +kernel
theorem dX0_addWithM_47 : decode cX0_addWithM 47 = .ok (.iconst 0, 1) := by decide +kernel
theorem dX0_addWithM_48 : decode cX0_addWithM 48 = .ok (.goto 5, 3) := by decide +kernel
theorem dX0_addWithM_13 : decode cX0_addWithM 13 = .ok (.aload_n 0, 1) := by decide +kernel
theorem dX0_addWithM_14 : decode cX0_addWithM 14 = .ok (.sipush 192, 3) := by decide +kernel
theorem dX0_addWithM_17 : decode cX0_addWithM 17 = .ok (.bipush 8, 2) := by decide +kernel
theorem dX0_addWithM_19 : decode cX0_addWithM 19 = .ok (.iload_n 3, 1) := by decide +kernel
theorem dX0_addWithM_20 : decode cX0_addWithM 20 = .ok (.imul, 1) := by decide +kernel
theorem dX0_addWithM_21 : decode cX0_addWithM 21 = .ok (.iadd, 1) := by decide +kernel
theorem dX0_addWithM_22 : decode cX0_addWithM 22 = .ok (.aload_n 2, 1) := by decide +kernel
theorem dX0_addWithM_23 : decode cX0_addWithM 23 = .ok (.getfield 62, 3) := by decide +kernel
theorem dX0_addWithM_26 : decode cX0_addWithM 26 = .ok (.iadd, 1) := by decide +kernel
theorem dX0_addWithM_27 : decode cX0_addWithM 27 = .ok (.invokevirtual 55, 3) := by decide +kernel
theorem dX0_addWithM_30 : decode cX0_addWithM 30 = .ok (.return_, 1) := by decide +kernel
set_option maxHeartbeats 4000000 in
set_option maxRecDepth 100000 in
theorem s_X0_addValue (l : Launch) (D : va_G) (dA : Nat → ClassId) (t0 : Nat) (o0 : Nat) (c0 : Nat) (c1 : Nat) (c2 : Nat) (c3 : Nat) (c4 : Nat) (c5 : Nat) (c6 : Nat) (i7 : Int32) (m0 : Nat → Int32) (m1 : Nat → Int32) (m2 : Nat → Int32) (m3 : Nat → Int32) (m4 : Nat → Int32) (m5 : Nat → Int32) (m6 : Nat → Int32) (oi0 : Int32) (oi1 : Int32) (oi2 : Int32) (oi3 : Int32) (oi4 : Int32) (oi5 : Int32) (oi6 : Int32) (oi7 : Int32) (p0 : 0 ≤ i7.toInt ∧ i7.toInt ≤ 248) (p1 : 0 ≤ oi5.toInt ∧ oi5.toInt ≤ 1) (sz : Nat) : Met l yX0_addValue (gws yX0_addValue cX0_addValue 2 none) (gR 2 0 0) (gPre D dA [.ref t0, .ref o0] [(t0, .inr (0, [.ref c0, .ref c1, .ref c2, .ref c3, .ref c4, .ref c5, .ref c6, .int i7])), (c0, .inl (dA 0, 248, .inl m0)), (c1, .inl (dA 0, 248, .inl m1)), (c2, .inl (dA 0, 248, .inl m2)), (c3, .inl (dA 0, 248, .inl m3)), (c4, .inl (dA 0, 248, .inl m4)), (c5, .inl (dA 0, 248, .inl m5)), (c6, .inl (dA 0, 248, .inl m6)), (o0, .inr (7, [.int oi0, .int oi1, .int oi2, .int oi3, .int oi4, .int oi5, .int oi6, .int oi7]))] sz) (va_Qv (fun u : Int32 × (Nat → Int32) × (Nat → Int32) × (Nat → Int32) × (Nat → Int32) × (Nat → Int32) × (Nat → Int32) × (Nat → Int32) => (0 ≤ u.1.toInt ∧ u.1.toInt ≤ 248)) (gAt D dA (va_A [(t0, .inr (0, [.ref c0, .ref c1, .ref c2, .ref c3, .ref c4, .ref c5, .ref c6, .int i7])), (c0, .inl (dA 0, 248, .inl m0)), (c1, .inl (dA 0, 248, .inl m1)), (c2, .inl (dA 0, 248, .inl m2)), (c3, .inl (dA 0, 248, .inl m3)), (c4, .inl (dA 0, 248, .inl m4)), (c5, .inl (dA 0, 248, .inl m5)), (c6, .inl (dA 0, 248, .inl m6)), (o0, .inr (7, [.int oi0, .int oi1, .int oi2, .int oi3, .int oi4, .int oi5, .int oi6, .int oi7]))] sz) (fun u : Int32 × (Nat → Int32) × (Nat → Int32) × (Nat → Int32) × (Nat → Int32) × (Nat → Int32) × (Nat → Int32) × (Nat → Int32) => [(t0, .inr (0, [.ref c0, .ref c1, .ref c2, .ref c3, .ref c4, .ref c5, .ref c6, .int u.1])), (c0, .inl (dA 0, 248, .inl (u.2.1))), (c1, .inl (dA 0, 248, .inl (u.2.2.1))), (c2, .inl (dA 0, 248, .inl (u.2.2.2.1))), (c3, .inl (dA 0, 248, .inl (u.2.2.2.2.1))), (c4, .inl (dA 0, 248, .inl (u.2.2.2.2.2.1))), (c5, .inl (dA 0, 248, .inl (u.2.2.2.2.2.2.1))), (c6, .inl (dA 0, 248, .inl (u.2.2.2.2.2.2.2))), (o0, .inr (7, [.int oi0, .int oi1, .int oi2, .int oi3, .int oi4, .int oi5, .int oi6, .int oi7]))])) (va_A [(t0, .inr (0, [.ref c0, .ref c1, .ref c2, .ref c3, .ref c4, .ref c5, .ref c6, .int i7])), (c0, .inl (dA 0, 248, .inl m0)), (c1, .inl (dA 0, 248, .inl m1)), (c2, .inl (dA 0, 248, .inl m2)), (c3, .inl (dA 0, 248, .inl m3)), (c4, .inl (dA 0, 248, .inl m4)), (c5, .inl (dA 0, 248, .inl m5)), (c6, .inl (dA 0, 248, .inl m6)), (o0, .inr (7, [.int oi0, .int oi1, .int oi2, .int oi3, .int oi4, .int oi5, .int oi6, .int oi7]))] sz)) 0 0 (va_A [(t0, .inr (0, [.ref c0, .ref c1, .ref c2, .ref c3, .ref c4, .ref c5, .ref c6, .int i7])), (c0, .inl (dA 0, 248, .inl m0)), (c1, .inl (dA 0, 248, .inl m1)), (c2, .inl (dA 0, 248, .inl m2)), (c3, .inl (dA 0, 248, .inl m3)), (c4, .inl (dA 0, 248, .inl m4)), (c5, .inl (dA 0, 248, .inl m5)), (c6, .inl (dA 0, 248, .inl m6)), (o0, .inr (7, [.int oi0, .int oi1, .int oi2, .int oi3, .int oi4, .int oi5, .int oi6, .int oi7]))] sz) := by
  refine Met.ofW (cc := cX0_addValue) (maxL := 2) (ret := none) (by decide) rfl ?_
  intro p e s m args below meth c s₁ B hml hv
  obtain ⟨rfl, hsz, hP, hK, hD0⟩ := hv
  have hx := B.exec
  have hb := B.bytes
  have hr := B.returns
  have hts := atoms_spec (ws := gws yX0_addValue cX0_addValue 2 none) B.pre
  have hg : ∀ w ∈ gw, w.before _ s = true := fun w h => hts w (List.mem_cons_of_mem _ h)
  have hown : s.vm.findClass RX0 = some m.cls := findClass_of_methodNamed B.named
  have hlocks := B.notSynchronized
  subst hsz
  have hD := hD0.self (sz := s.heap.size)
  generalize hAe : va_A [(t0, .inr (0, [.ref c0, .ref c1, .ref c2, .ref c3, .ref c4, .ref c5, .ref c6, .int i7])), (c0, .inl (dA 0, 248, .inl m0)), (c1, .inl (dA 0, 248, .inl m1)), (c2, .inl (dA 0, 248, .inl m2)), (c3, .inl (dA 0, 248, .inl m3)), (c4, .inl (dA 0, 248, .inl m4)), (c5, .inl (dA 0, 248, .inl m5)), (c6, .inl (dA 0, 248, .inl m6)), (o0, .inr (7, [.int oi0, .int oi1, .int oi2, .int oi3, .int oi4, .int oi5, .int oi6, .int oi7]))] s.heap.size = A at hD ⊢
  have hA : ∀ q : Nat, s.heap.size ≤ q → A q := fun q h => by rw [← hAe]; exact Or.inr h
  have hS : va_S A s.heap s.heap [] := va_S.rf
  have hP : va_P D vwC [(t0, .inr (0, [.ref c0, .ref c1, .ref c2, .ref c3, .ref c4, .ref c5, .ref c6, .int i7])), (c0, .inl (dA 0, 248, .inl m0)), (c1, .inl (dA 0, 248, .inl m1)), (c2, .inl (dA 0, 248, .inl m2)), (c3, .inl (dA 0, 248, .inl m3)), (c4, .inl (dA 0, 248, .inl m4)), (c5, .inl (dA 0, 248, .inl m5)), (c6, .inl (dA 0, 248, .inl m6)), (o0, .inr (7, [.int oi0, .int oi1, .int oi2, .int oi3, .int oi4, .int oi5, .int oi6, .int oi7]))] s.heap := hP
  have hl := lv_entry ([.ref t0, .ref o0]) (n := 2) (Nat.le_of_ble_eq_true rfl)
  rw [lg_entry_eq]
  generalize (lg_sl ([.ref t0, .ref o0]) ++ List.replicate (2 - (lg_sl ([.ref t0, .ref o0])).length) Slot.unset).toArray = ls at hl ⊢
  have hl : lv_has ls 2 [(0, .ref t0), (1, .ref o0)] := hl
  refine lv_aload_n hx hb dX0_addValue_0 rfl (lv_at hl 1 rfl) ?_
  refine g_get hx hb hg hown hK hP 8 rfl rfl inX7 3 (by decide) q317 rfl dX0_addValue_1 ?_
  refine lv_if_ge (tgt := 23) hx hb dX0_addValue_4 (by decide) (fun k1 => ?_) (fun k1 => ?_)
  · have g2 : 0 ≤ oi3.toInt := gi_le (by decide : (0 : Int32).toInt = 0) (rfl : oi3.toInt = oi3.toInt) k1
    refine lv_aload_n hx hb dX0_addValue_23 rfl (lv_at hl 0 rfl) ?_
    refine lv_aload_n hx hb dX0_addValue_24 rfl (lv_at hl 1 rfl) ?_
    refine g_get hx hb hg hown hK hP 8 rfl rfl inX7 5 (by decide) q323 rfl dX0_addValue_25 ?_
    refine lv_if_eq (tgt := 36) hx hb dX0_addValue_28 (by decide) (fun k3 => ?_) (fun k3 => ?_)
    · have g4 : oi5.toInt = 0 := gi_eq (rfl : oi5.toInt = oi5.toInt) (by decide : (0 : Int32).toInt = 0) k3
      refine lv_bipush (v := 7) hx hb dX0_addValue_36 (by decide) ?_
      refine lv_aload_n hx hb dX0_addValue_38 rfl (lv_at hl 1 rfl) ?_
      refine g_get hx hb hg hown hK hP 8 rfl rfl inX7 2 (by decide) q314 rfl dX0_addValue_39 ?_
      refine lv_aload_n hx hb dX0_addValue_42 rfl (lv_at hl 1 rfl) ?_
      refine g_get hx hb hg hown hK hP 8 rfl rfl inX7 3 (by decide) q317 rfl dX0_addValue_43 ?_
      refine lv_aload_n hx hb dX0_addValue_46 rfl (lv_at hl 1 rfl) ?_
      refine g_get hx hb hg hown hK hP 8 rfl rfl inX7 4 (by decide) q320 rfl dX0_addValue_47 ?_
      refine lv_iconst (v := (-1)) hx hb dX0_addValue_50 (by decide) ?_
      refine g_Vv (n := 5) (As := [.int 7, .int oi2, .int oi3, .int oi4, .int (-1)]) (rest := []) (wr := [(o0, .inr (7, [.int oi0, .int oi1, .int oi2, .int oi3, .int oi4, .int oi5, .int oi6, .int oi7]))]) hx hb hml hg hown hK hP hD hS hA (s_X0_add l D dA t0 (7) oi2 oi3 oi4 (-1) c0 c1 c2 c3 c4 c5 c6 i7 m0 m1 m2 m3 m4 m5 m6 (by omega) _) [0, 1, 2, 3, 4, 5, 6, 7] [8] rfl (by decide) rfl (by decide) (by decide) 0 rfl rfl q962 q152 q1024 q960 q961 (by decide +kernel) ⟨(Nat.le_of_ble_eq_true rfl), (Nat.le_of_ble_eq_true rfl)⟩ rfl hl.1 rfl (Nat.le_of_ble_eq_true rfl) dX0_addValue_51 ⟨(Nat.le_of_ble_eq_true rfl), (Nat.le_of_ble_eq_true rfl)⟩ (fun u5 H locs w7 hP hD hS => ?_)
      refine W.widen (k := 0) (n := 0) (Nat.le_of_ble_eq_true rfl) (Nat.le_of_ble_eq_true rfl) ?_
      obtain ⟨x8, f9, f10, f11, f12, f13, f14, f15⟩ := u5
      have hP : va_P D vwC [(o0, .inr (7, [.int oi0, .int oi1, .int oi2, .int oi3, .int oi4, .int oi5, .int oi6, .int oi7])), (t0, .inr (0, [.ref c0, .ref c1, .ref c2, .ref c3, .ref c4, .ref c5, .ref c6, .int x8])), (c0, .inl (dA 0, 248, .inl f9)), (c1, .inl (dA 0, 248, .inl f10)), (c2, .inl (dA 0, 248, .inl f11)), (c3, .inl (dA 0, 248, .inl f12)), (c4, .inl (dA 0, 248, .inl f13)), (c5, .inl (dA 0, 248, .inl f14)), (c6, .inl (dA 0, 248, .inl f15))] H := hP
      have hD : va_D A [(o0, .inr (7, [.int oi0, .int oi1, .int oi2, .int oi3, .int oi4, .int oi5, .int oi6, .int oi7])), (t0, .inr (0, [.ref c0, .ref c1, .ref c2, .ref c3, .ref c4, .ref c5, .ref c6, .int x8])), (c0, .inl (dA 0, 248, .inl f9)), (c1, .inl (dA 0, 248, .inl f10)), (c2, .inl (dA 0, 248, .inl f11)), (c3, .inl (dA 0, 248, .inl f12)), (c4, .inl (dA 0, 248, .inl f13)), (c5, .inl (dA 0, 248, .inl f14)), (c6, .inl (dA 0, 248, .inl f15))] := hD
      have g16 := w7
      have g16 : 0 ≤ x8.toInt ∧ x8.toInt ≤ 248 := g16
      obtain ⟨hP, hD⟩ := g_cut (is := [1, 2, 3, 4, 5, 6, 7, 8, 0]) (w' := [(t0, .inr (0, [.ref c0, .ref c1, .ref c2, .ref c3, .ref c4, .ref c5, .ref c6, .int x8])), (c0, .inl (dA 0, 248, .inl f9)), (c1, .inl (dA 0, 248, .inl f10)), (c2, .inl (dA 0, 248, .inl f11)), (c3, .inl (dA 0, 248, .inl f12)), (c4, .inl (dA 0, 248, .inl f13)), (c5, .inl (dA 0, 248, .inl f14)), (c6, .inl (dA 0, 248, .inl f15)), (o0, .inr (7, [.int oi0, .int oi1, .int oi2, .int oi3, .int oi4, .int oi5, .int oi6, .int oi7]))]) hP hD (by decide) rfl rfl
      exact g_vret hx hb hr hlocks hK (x8, f9, f10, f11, f12, f13, f14, f15) hP hD hS (show 0 ≤ x8.toInt ∧ x8.toInt ≤ 248 from by omega) (Nat.le_of_ble_eq_true rfl) (Nat.le_of_ble_eq_true rfl) dX0_addValue_54
    · have g17 : oi5.toInt ≠ 0 := gi_neq (rfl : oi5.toInt = oi5.toInt) (by decide : (0 : Int32).toInt = 0) k3
      refine lv_bipush (v := 8) hx hb dX0_addValue_31 (by decide) ?_
      refine lv_goto (tgt := 38) hx hb dX0_addValue_33 (by decide) ?_
      refine lv_aload_n hx hb dX0_addValue_38 rfl (lv_at hl 1 rfl) ?_
      refine g_get hx hb hg hown hK hP 8 rfl rfl inX7 2 (by decide) q314 rfl dX0_addValue_39 ?_
      refine lv_aload_n hx hb dX0_addValue_42 rfl (lv_at hl 1 rfl) ?_
      refine g_get hx hb hg hown hK hP 8 rfl rfl inX7 3 (by decide) q317 rfl dX0_addValue_43 ?_
      refine lv_aload_n hx hb dX0_addValue_46 rfl (lv_at hl 1 rfl) ?_
      refine g_get hx hb hg hown hK hP 8 rfl rfl inX7 4 (by decide) q320 rfl dX0_addValue_47 ?_
      refine lv_iconst (v := (-1)) hx hb dX0_addValue_50 (by decide) ?_
      refine g_Vv (n := 5) (As := [.int 8, .int oi2, .int oi3, .int oi4, .int (-1)]) (rest := []) (wr := [(o0, .inr (7, [.int oi0, .int oi1, .int oi2, .int oi3, .int oi4, .int oi5, .int oi6, .int oi7]))]) hx hb hml hg hown hK hP hD hS hA (s_X0_add l D dA t0 (8) oi2 oi3 oi4 (-1) c0 c1 c2 c3 c4 c5 c6 i7 m0 m1 m2 m3 m4 m5 m6 (by omega) _) [0, 1, 2, 3, 4, 5, 6, 7] [8] rfl (by decide) rfl (by decide) (by decide) 0 rfl rfl q962 q152 q1024 q960 q961 (by decide +kernel) ⟨(Nat.le_of_ble_eq_true rfl), (Nat.le_of_ble_eq_true rfl)⟩ rfl hl.1 rfl (Nat.le_of_ble_eq_true rfl) dX0_addValue_51 ⟨(Nat.le_of_ble_eq_true rfl), (Nat.le_of_ble_eq_true rfl)⟩ (fun u18 H locs w20 hP hD hS => ?_)
      refine W.widen (k := 0) (n := 0) (Nat.le_of_ble_eq_true rfl) (Nat.le_of_ble_eq_true rfl) ?_
      obtain ⟨x21, f22, f23, f24, f25, f26, f27, f28⟩ := u18
      have hP : va_P D vwC [(o0, .inr (7, [.int oi0, .int oi1, .int oi2, .int oi3, .int oi4, .int oi5, .int oi6, .int oi7])), (t0, .inr (0, [.ref c0, .ref c1, .ref c2, .ref c3, .ref c4, .ref c5, .ref c6, .int x21])), (c0, .inl (dA 0, 248, .inl f22)), (c1, .inl (dA 0, 248, .inl f23)), (c2, .inl (dA 0, 248, .inl f24)), (c3, .inl (dA 0, 248, .inl f25)), (c4, .inl (dA 0, 248, .inl f26)), (c5, .inl (dA 0, 248, .inl f27)), (c6, .inl (dA 0, 248, .inl f28))] H := hP
      have hD : va_D A [(o0, .inr (7, [.int oi0, .int oi1, .int oi2, .int oi3, .int oi4, .int oi5, .int oi6, .int oi7])), (t0, .inr (0, [.ref c0, .ref c1, .ref c2, .ref c3, .ref c4, .ref c5, .ref c6, .int x21])), (c0, .inl (dA 0, 248, .inl f22)), (c1, .inl (dA 0, 248, .inl f23)), (c2, .inl (dA 0, 248, .inl f24)), (c3, .inl (dA 0, 248, .inl f25)), (c4, .inl (dA 0, 248, .inl f26)), (c5, .inl (dA 0, 248, .inl f27)), (c6, .inl (dA 0, 248, .inl f28))] := hD
      have g29 := w20
      have g29 : 0 ≤ x21.toInt ∧ x21.toInt ≤ 248 := g29
      obtain ⟨hP, hD⟩ := g_cut (is := [1, 2, 3, 4, 5, 6, 7, 8, 0]) (w' := [(t0, .inr (0, [.ref c0, .ref c1, .ref c2, .ref c3, .ref c4, .ref c5, .ref c6, .int x21])), (c0, .inl (dA 0, 248, .inl f22)), (c1, .inl (dA 0, 248, .inl f23)), (c2, .inl (dA 0, 248, .inl f24)), (c3, .inl (dA 0, 248, .inl f25)), (c4, .inl (dA 0, 248, .inl f26)), (c5, .inl (dA 0, 248, .inl f27)), (c6, .inl (dA 0, 248, .inl f28)), (o0, .inr (7, [.int oi0, .int oi1, .int oi2, .int oi3, .int oi4, .int oi5, .int oi6, .int oi7]))]) hP hD (by decide) rfl rfl
      exact g_vret hx hb hr hlocks hK (x21, f22, f23, f24, f25, f26, f27, f28) hP hD hS (show 0 ≤ x21.toInt ∧ x21.toInt ≤ 248 from by omega) (Nat.le_of_ble_eq_true rfl) (Nat.le_of_ble_eq_true rfl) dX0_addValue_54
  · have g30 : 0 > oi3.toInt := gi_nle (by decide : (0 : Int32).toInt = 0) (rfl : oi3.toInt = oi3.toInt) k1
    refine lv_aload_n hx hb dX0_addValue_7 rfl (lv_at hl 0 rfl) ?_
    refine lv_bipush (v := 6) hx hb dX0_addValue_8 (by decide) ?_
    refine lv_aload_n hx hb dX0_addValue_10 rfl (lv_at hl 1 rfl) ?_
    refine g_get hx hb hg hown hK hP 8 rfl rfl inX7 2 (by decide) q314 rfl dX0_addValue_11 ?_
    refine lv_iconst (v := (-1)) hx hb dX0_addValue_14 (by decide) ?_
    refine lv_iconst (v := (-1)) hx hb dX0_addValue_15 (by decide) ?_
    refine lv_iconst (v := (-1)) hx hb dX0_addValue_16 (by decide) ?_
    refine g_Vv (n := 5) (As := [.int 6, .int oi2, .int (-1), .int (-1), .int (-1)]) (rest := []) (wr := [(o0, .inr (7, [.int oi0, .int oi1, .int oi2, .int oi3, .int oi4, .int oi5, .int oi6, .int oi7]))]) hx hb hml hg hown hK hP hD hS hA (s_X0_add l D dA t0 (6) oi2 (-1) (-1) (-1) c0 c1 c2 c3 c4 c5 c6 i7 m0 m1 m2 m3 m4 m5 m6 (by omega) _) [0, 1, 2, 3, 4, 5, 6, 7] [8] rfl (by decide) rfl (by decide) (by decide) 0 rfl rfl q962 q152 q1024 q960 q961 (by decide +kernel) ⟨(Nat.le_of_ble_eq_true rfl), (Nat.le_of_ble_eq_true rfl)⟩ rfl hl.1 rfl (Nat.le_of_ble_eq_true rfl) dX0_addValue_17 ⟨(Nat.le_of_ble_eq_true rfl), (Nat.le_of_ble_eq_true rfl)⟩ (fun u31 H locs w33 hP hD hS => ?_)
    refine W.widen (k := 0) (n := 0) (Nat.le_of_ble_eq_true rfl) (Nat.le_of_ble_eq_true rfl) ?_
    obtain ⟨x34, f35, f36, f37, f38, f39, f40, f41⟩ := u31
    have hP : va_P D vwC [(o0, .inr (7, [.int oi0, .int oi1, .int oi2, .int oi3, .int oi4, .int oi5, .int oi6, .int oi7])), (t0, .inr (0, [.ref c0, .ref c1, .ref c2, .ref c3, .ref c4, .ref c5, .ref c6, .int x34])), (c0, .inl (dA 0, 248, .inl f35)), (c1, .inl (dA 0, 248, .inl f36)), (c2, .inl (dA 0, 248, .inl f37)), (c3, .inl (dA 0, 248, .inl f38)), (c4, .inl (dA 0, 248, .inl f39)), (c5, .inl (dA 0, 248, .inl f40)), (c6, .inl (dA 0, 248, .inl f41))] H := hP
    have hD : va_D A [(o0, .inr (7, [.int oi0, .int oi1, .int oi2, .int oi3, .int oi4, .int oi5, .int oi6, .int oi7])), (t0, .inr (0, [.ref c0, .ref c1, .ref c2, .ref c3, .ref c4, .ref c5, .ref c6, .int x34])), (c0, .inl (dA 0, 248, .inl f35)), (c1, .inl (dA 0, 248, .inl f36)), (c2, .inl (dA 0, 248, .inl f37)), (c3, .inl (dA 0, 248, .inl f38)), (c4, .inl (dA 0, 248, .inl f39)), (c5, .inl (dA 0, 248, .inl f40)), (c6, .inl (dA 0, 248, .inl f41))] := hD
    have g42 := w33
    have g42 : 0 ≤ x34.toInt ∧ x34.toInt ≤ 248 := g42
    refine lv_goto (tgt := 54) hx hb dX0_addValue_20 (by decide) ?_
    obtain ⟨hP, hD⟩ := g_cut (is := [1, 2, 3, 4, 5, 6, 7, 8, 0]) (w' := [(t0, .inr (0, [.ref c0, .ref c1, .ref c2, .ref c3, .ref c4, .ref c5, .ref c6, .int x34])), (c0, .inl (dA 0, 248, .inl f35)), (c1, .inl (dA 0, 248, .inl f36)), (c2, .inl (dA 0, 248, .inl f37)), (c3, .inl (dA 0, 248, .inl f38)), (c4, .inl (dA 0, 248, .inl f39)), (c5, .inl (dA 0, 248, .inl f40)), (c6, .inl (dA 0, 248, .inl f41)), (o0, .inr (7, [.int oi0, .int oi1, .int oi2, .int oi3, .int oi4, .int oi5, .int oi6, .int oi7]))]) hP hD (by decide) rfl rfl
    exact g_vret hx hb hr hlocks hK (x34, f35, f36, f37, f38, f39, f40, f41) hP hD hS (show 0 ≤ x34.toInt ∧ x34.toInt ≤ 248 from by omega) (Nat.le_of_ble_eq_true rfl) (Nat.le_of_ble_eq_true rfl) dX0_addValue_54
set_option maxHeartbeats 4000000 in
set_option maxRecDepth 100000 in
theorem s_X0_addWithM (l : Launch) (D : va_G) (dA : Nat → ClassId) (t0 : Nat) (a0 : Int32) (o0 : Nat) (a1 : Int32) (c0 : Nat) (c1 : Nat) (c2 : Nat) (c3 : Nat) (c4 : Nat) (c5 : Nat) (c6 : Nat) (i7 : Int32) (m0 : Nat → Int32) (m1 : Nat → Int32) (m2 : Nat → Int32) (m3 : Nat → Int32) (m4 : Nat → Int32) (m5 : Nat → Int32) (m6 : Nat → Int32) (oi0 : Int32) (oi1 : Int32) (oi2 : Int32) (oi3 : Int32) (oi4 : Int32) (oi5 : Int32) (oi6 : Int32) (oi7 : Int32) (p0 : 0 ≤ i7.toInt ∧ i7.toInt ≤ 248) (p1 : 0 ≤ oi5.toInt ∧ oi5.toInt ≤ 1) (sz : Nat) : Met l yX0_addWithM (gws yX0_addWithM cX0_addWithM 5 none) (gR 3 0 0) (gPre D dA [.ref t0, .int a0, .ref o0, .int a1] [(t0, .inr (0, [.ref c0, .ref c1, .ref c2, .ref c3, .ref c4, .ref c5, .ref c6, .int i7])), (c0, .inl (dA 0, 248, .inl m0)), (c1, .inl (dA 0, 248, .inl m1)), (c2, .inl (dA 0, 248, .inl m2)), (c3, .inl (dA 0, 248, .inl m3)), (c4, .inl (dA 0, 248, .inl m4)), (c5, .inl (dA 0, 248, .inl m5)), (c6, .inl (dA 0, 248, .inl m6)), (o0, .inr (7, [.int oi0, .int oi1, .int oi2, .int oi3, .int oi4, .int oi5, .int oi6, .int oi7]))] sz) (va_Qv (fun u : Int32 × (Nat → Int32) × (Nat → Int32) × (Nat → Int32) × (Nat → Int32) × (Nat → Int32) × (Nat → Int32) × (Nat → Int32) => (0 ≤ u.1.toInt ∧ u.1.toInt ≤ 248)) (gAt D dA (va_A [(t0, .inr (0, [.ref c0, .ref c1, .ref c2, .ref c3, .ref c4, .ref c5, .ref c6, .int i7])), (c0, .inl (dA 0, 248, .inl m0)), (c1, .inl (dA 0, 248, .inl m1)), (c2, .inl (dA 0, 248, .inl m2)), (c3, .inl (dA 0, 248, .inl m3)), (c4, .inl (dA 0, 248, .inl m4)), (c5, .inl (dA 0, 248, .inl m5)), (c6, .inl (dA 0, 248, .inl m6)), (o0, .inr (7, [.int oi0, .int oi1, .int oi2, .int oi3, .int oi4, .int oi5, .int oi6, .int oi7]))] sz) (fun u : Int32 × (Nat → Int32) × (Nat → Int32) × (Nat → Int32) × (Nat → Int32) × (Nat → Int32) × (Nat → Int32) × (Nat → Int32) => [(t0, .inr (0, [.ref c0, .ref c1, .ref c2, .ref c3, .ref c4, .ref c5, .ref c6, .int u.1])), (c0, .inl (dA 0, 248, .inl (u.2.1))), (c1, .inl (dA 0, 248, .inl (u.2.2.1))), (c2, .inl (dA 0, 248, .inl (u.2.2.2.1))), (c3, .inl (dA 0, 248, .inl (u.2.2.2.2.1))), (c4, .inl (dA 0, 248, .inl (u.2.2.2.2.2.1))), (c5, .inl (dA 0, 248, .inl (u.2.2.2.2.2.2.1))), (c6, .inl (dA 0, 248, .inl (u.2.2.2.2.2.2.2))), (o0, .inr (7, [.int oi0, .int oi1, .int oi2, .int oi3, .int oi4, .int oi5, .int oi6, .int oi7]))])) (va_A [(t0, .inr (0, [.ref c0, .ref c1, .ref c2, .ref c3, .ref c4, .ref c5, .ref c6, .int i7])), (c0, .inl (dA 0, 248, .inl m0)), (c1, .inl (dA 0, 248, .inl m1)), (c2, .inl (dA 0, 248, .inl m2)), (c3, .inl (dA 0, 248, .inl m3)), (c4, .inl (dA 0, 248, .inl m4)), (c5, .inl (dA 0, 248, .inl m5)), (c6, .inl (dA 0, 248, .inl m6)), (o0, .inr (7, [.int oi0, .int oi1, .int oi2, .int oi3, .int oi4, .int oi5, .int oi6, .int oi7]))] sz)) 0 0 (va_A [(t0, .inr (0, [.ref c0, .ref c1, .ref c2, .ref c3, .ref c4, .ref c5, .ref c6, .int i7])), (c0, .inl (dA 0, 248, .inl m0)), (c1, .inl (dA 0, 248, .inl m1)), (c2, .inl (dA 0, 248, .inl m2)), (c3, .inl (dA 0, 248, .inl m3)), (c4, .inl (dA 0, 248, .inl m4)), (c5, .inl (dA 0, 248, .inl m5)), (c6, .inl (dA 0, 248, .inl m6)), (o0, .inr (7, [.int oi0, .int oi1, .int oi2, .int oi3, .int oi4, .int oi5, .int oi6, .int oi7]))] sz) := by
  refine Met.ofW (cc := cX0_addWithM) (maxL := 5) (ret := none) (by decide) rfl ?_
  intro p e s m args below meth c s₁ B hml hv
  obtain ⟨rfl, hsz, hP, hK, hD0⟩ := hv
  have hx := B.exec
  have hb := B.bytes
  have hr := B.returns
  have hts := atoms_spec (ws := gws yX0_addWithM cX0_addWithM 5 none) B.pre
  have hg : ∀ w ∈ gw, w.before _ s = true := fun w h => hts w (List.mem_cons_of_mem _ h)
  have hown : s.vm.findClass RX0 = some m.cls := findClass_of_methodNamed B.named
  have hlocks := B.notSynchronized
  subst hsz
  have hD := hD0.self (sz := s.heap.size)
  generalize hAe : va_A [(t0, .inr (0, [.ref c0, .ref c1, .ref c2, .ref c3, .ref c4, .ref c5, .ref c6, .int i7])), (c0, .inl (dA 0, 248, .inl m0)), (c1, .inl (dA 0, 248, .inl m1)), (c2, .inl (dA 0, 248, .inl m2)), (c3, .inl (dA 0, 248, .inl m3)), (c4, .inl (dA 0, 248, .inl m4)), (c5, .inl (dA 0, 248, .inl m5)), (c6, .inl (dA 0, 248, .inl m6)), (o0, .inr (7, [.int oi0, .int oi1, .int oi2, .int oi3, .int oi4, .int oi5, .int oi6, .int oi7]))] s.heap.size = A at hD ⊢
  have hA : ∀ q : Nat, s.heap.size ≤ q → A q := fun q h => by rw [← hAe]; exact Or.inr h
  have hS : va_S A s.heap s.heap [] := va_S.rf
  have hP : va_P D vwC [(t0, .inr (0, [.ref c0, .ref c1, .ref c2, .ref c3, .ref c4, .ref c5, .ref c6, .int i7])), (c0, .inl (dA 0, 248, .inl m0)), (c1, .inl (dA 0, 248, .inl m1)), (c2, .inl (dA 0, 248, .inl m2)), (c3, .inl (dA 0, 248, .inl m3)), (c4, .inl (dA 0, 248, .inl m4)), (c5, .inl (dA 0, 248, .inl m5)), (c6, .inl (dA 0, 248, .inl m6)), (o0, .inr (7, [.int oi0, .int oi1, .int oi2, .int oi3, .int oi4, .int oi5, .int oi6, .int oi7]))] s.heap := hP
  have hl := lv_entry ([.ref t0, .int a0, .ref o0, .int a1]) (n := 5) (Nat.le_of_ble_eq_true rfl)
  rw [lg_entry_eq]
  generalize (lg_sl ([.ref t0, .int a0, .ref o0, .int a1]) ++ List.replicate (5 - (lg_sl ([.ref t0, .int a0, .ref o0, .int a1])).length) Slot.unset).toArray = ls at hl ⊢
  have hl : lv_has ls 5 [(0, .ref t0), (1, .int a0), (2, .ref o0), (3, .int a1)] := hl
  refine lv_aload_n hx hb dX0_addWithM_0 rfl (lv_at hl 0 rfl) ?_
  refine lv_iload_n hx hb dX0_addWithM_1 rfl (lv_at hl 1 rfl) ?_
  refine g_Vv (n := 1) (As := [.int a0]) (rest := []) (wr := [(o0, .inr (7, [.int oi0, .int oi1, .int oi2, .int oi3, .int oi4, .int oi5, .int oi6, .int oi7]))]) hx hb hml hg hown hK hP hD hS hA (s_X0_addByte l D dA t0 a0 c0 c1 c2 c3 c4 c5 c6 i7 m0 m1 m2 m3 m4 m5 m6 (by omega) _) [0, 1, 2, 3, 4, 5, 6, 7] [8] rfl (by decide) rfl (by decide) (by decide) 0 rfl rfl q1050 q152 q1047 q1048 q1049 (by decide +kernel) ⟨(Nat.le_of_ble_eq_true rfl), (Nat.le_of_ble_eq_true rfl)⟩ rfl hl.1 rfl (Nat.le_of_ble_eq_true rfl) dX0_addWithM_2 ⟨(Nat.le_of_ble_eq_true rfl), (Nat.le_of_ble_eq_true rfl)⟩ (fun u1 H locs w3 hP hD hS => ?_)
  refine W.widen (k := 0) (n := 0) (Nat.le_of_ble_eq_true rfl) (Nat.le_of_ble_eq_true rfl) ?_
  obtain ⟨x4, f5, f6, f7, f8, f9, f10, f11⟩ := u1
  have hP : va_P D vwC [(o0, .inr (7, [.int oi0, .int oi1, .int oi2, .int oi3, .int oi4, .int oi5, .int oi6, .int oi7])), (t0, .inr (0, [.ref c0, .ref c1, .ref c2, .ref c3, .ref c4, .ref c5, .ref c6, .int x4])), (c0, .inl (dA 0, 248, .inl f5)), (c1, .inl (dA 0, 248, .inl f6)), (c2, .inl (dA 0, 248, .inl f7)), (c3, .inl (dA 0, 248, .inl f8)), (c4, .inl (dA 0, 248, .inl f9)), (c5, .inl (dA 0, 248, .inl f10)), (c6, .inl (dA 0, 248, .inl f11))] H := hP
  have hD : va_D A [(o0, .inr (7, [.int oi0, .int oi1, .int oi2, .int oi3, .int oi4, .int oi5, .int oi6, .int oi7])), (t0, .inr (0, [.ref c0, .ref c1, .ref c2, .ref c3, .ref c4, .ref c5, .ref c6, .int x4])), (c0, .inl (dA 0, 248, .inl f5)), (c1, .inl (dA 0, 248, .inl f6)), (c2, .inl (dA 0, 248, .inl f7)), (c3, .inl (dA 0, 248, .inl f8)), (c4, .inl (dA 0, 248, .inl f9)), (c5, .inl (dA 0, 248, .inl f10)), (c6, .inl (dA 0, 248, .inl f11))] := hD
  have g12 := w3
  have g12 : 0 ≤ x4.toInt ∧ x4.toInt ≤ 248 := g12
  refine lv_aload_n hx hb dX0_addWithM_5 rfl (lv_at hl 2 rfl) ?_
  refine g_get hx hb hg hown hK hP 0 rfl rfl inX7 0 (by decide) q308 rfl dX0_addWithM_6 ?_
  refine lv_iconst (v := 1) hx hb dX0_addWithM_9 (by decide) ?_
  refine lv_icmp_ne (tgt := 31) hx hb dX0_addWithM_10 (by decide) (fun k13 => ?_) (fun k13 => ?_)
  · have g14 : oi0.toInt ≠ 1 := gi_neq (rfl : oi0.toInt = oi0.toInt) (by decide : (1 : Int32).toInt = 1) k13
    refine lv_aload_n hx hb dX0_addWithM_31 rfl (lv_at hl 2 rfl) ?_
    refine g_Vi (n := 0) (As := []) (rest := []) (wr := [(t0, .inr (0, [.ref c0, .ref c1, .ref c2, .ref c3, .ref c4, .ref c5, .ref c6, .int x4])), (c0, .inl (dA 0, 248, .inl f5)), (c1, .inl (dA 0, 248, .inl f6)), (c2, .inl (dA 0, 248, .inl f7)), (c3, .inl (dA 0, 248, .inl f8)), (c4, .inl (dA 0, 248, .inl f9)), (c5, .inl (dA 0, 248, .inl f10)), (c6, .inl (dA 0, 248, .inl f11))]) hx hb hml hg hown hK hP hD hS hA (s_X7_displacementSize l D dA o0 oi0 oi1 oi2 oi3 oi4 oi5 oi6 oi7 (by omega) _) [0] [1, 2, 3, 4, 5, 6, 7, 8] rfl (by decide) rfl (by decide) (by decide) 0 rfl rfl q1054 q154 q1051 q1052 q1053 (by decide +kernel) ⟨(Nat.le_of_ble_eq_true rfl), (Nat.le_of_ble_eq_true rfl)⟩ rfl hl.1 rfl (Nat.le_of_ble_eq_true rfl) dX0_addWithM_32 ⟨(Nat.le_of_ble_eq_true rfl), (Nat.le_of_ble_eq_true rfl)⟩ (fun x16 u15 H locs w17 hP hD hS => ?_)
    refine W.widen (k := 0) (n := 0) (Nat.le_of_ble_eq_true rfl) (Nat.le_of_ble_eq_true rfl) ?_
    have hP : va_P D vwC [(t0, .inr (0, [.ref c0, .ref c1, .ref c2, .ref c3, .ref c4, .ref c5, .ref c6, .int x4])), (c0, .inl (dA 0, 248, .inl f5)), (c1, .inl (dA 0, 248, .inl f6)), (c2, .inl (dA 0, 248, .inl f7)), (c3, .inl (dA 0, 248, .inl f8)), (c4, .inl (dA 0, 248, .inl f9)), (c5, .inl (dA 0, 248, .inl f10)), (c6, .inl (dA 0, 248, .inl f11)), (o0, .inr (7, [.int oi0, .int oi1, .int oi2, .int oi3, .int oi4, .int oi5, .int oi6, .int oi7]))] H := hP
    have hD : va_D A [(t0, .inr (0, [.ref c0, .ref c1, .ref c2, .ref c3, .ref c4, .ref c5, .ref c6, .int x4])), (c0, .inl (dA 0, 248, .inl f5)), (c1, .inl (dA 0, 248, .inl f6)), (c2, .inl (dA 0, 248, .inl f7)), (c3, .inl (dA 0, 248, .inl f8)), (c4, .inl (dA 0, 248, .inl f9)), (c5, .inl (dA 0, 248, .inl f10)), (c6, .inl (dA 0, 248, .inl f11)), (o0, .inr (7, [.int oi0, .int oi1, .int oi2, .int oi3, .int oi4, .int oi5, .int oi6, .int oi7]))] := hD
    have g18 := w17
    have g18 : 0 ≤ x16.toInt ∧ x16.toInt ≤ 2 := g18
    refine lv_istore (lv' := [(4, .int x16), (0, .ref t0), (1, .int a0), (2, .ref o0), (3, .int a1)]) hx hb dX0_addWithM_35 hl (by decide) rfl (fun ls hl => ?_)
    refine lv_aload_n hx hb dX0_addWithM_37 rfl (lv_at hl 1 rfl) ?_
    refine lv_bipush (v := 64) hx hb dX0_addWithM_38 (by decide) ?_
    refine lv_aload_n hx hb dX0_addWithM_40 rfl (lv_at hl 3 rfl) ?_
    refine g_Vi (n := 0) (As := []) (rest := [.int 64, .ref t0]) (wr := [(t0, .inr (0, [.ref c0, .ref c1, .ref c2, .ref c3, .ref c4, .ref c5, .ref c6, .int x4])), (c0, .inl (dA 0, 248, .inl f5)), (c1, .inl (dA 0, 248, .inl f6)), (c2, .inl (dA 0, 248, .inl f7)), (c3, .inl (dA 0, 248, .inl f8)), (c4, .inl (dA 0, 248, .inl f9)), (c5, .inl (dA 0, 248, .inl f10)), (c6, .inl (dA 0, 248, .inl f11))]) hx hb hml hg hown hK hP hD hS hA (s_X7_isBare l D dA o0 oi0 oi1 oi2 oi3 oi4 oi5 oi6 oi7 (by omega) _) [8] [0, 1, 2, 3, 4, 5, 6, 7] rfl (by decide) rfl (by decide) (by decide) 0 rfl rfl q1058 q154 q1070 q1056 q1057 (by decide +kernel) ⟨(Nat.le_of_ble_eq_true rfl), (Nat.le_of_ble_eq_true rfl)⟩ rfl hl.1 rfl (Nat.le_of_ble_eq_true rfl) dX0_addWithM_41 ⟨(Nat.le_of_ble_eq_true rfl), (Nat.le_of_ble_eq_true rfl)⟩ (fun x20 u19 H locs w21 hP hD hS => ?_)
    refine W.widen (k := 0) (n := 0) (Nat.le_of_ble_eq_true rfl) (Nat.le_of_ble_eq_true rfl) ?_
    have hP : va_P D vwC [(t0, .inr (0, [.ref c0, .ref c1, .ref c2, .ref c3, .ref c4, .ref c5, .ref c6, .int x4])), (c0, .inl (dA 0, 248, .inl f5)), (c1, .inl (dA 0, 248, .inl f6)), (c2, .inl (dA 0, 248, .inl f7)), (c3, .inl (dA 0, 248, .inl f8)), (c4, .inl (dA 0, 248, .inl f9)), (c5, .inl (dA 0, 248, .inl f10)), (c6, .inl (dA 0, 248, .inl f11)), (o0, .inr (7, [.int oi0, .int oi1, .int oi2, .int oi3, .int oi4, .int oi5, .int oi6, .int oi7]))] H := hP
    have hD : va_D A [(t0, .inr (0, [.ref c0, .ref c1, .ref c2, .ref c3, .ref c4, .ref c5, .ref c6, .int x4])), (c0, .inl (dA 0, 248, .inl f5)), (c1, .inl (dA 0, 248, .inl f6)), (c2, .inl (dA 0, 248, .inl f7)), (c3, .inl (dA 0, 248, .inl f8)), (c4, .inl (dA 0, 248, .inl f9)), (c5, .inl (dA 0, 248, .inl f10)), (c6, .inl (dA 0, 248, .inl f11)), (o0, .inr (7, [.int oi0, .int oi1, .int oi2, .int oi3, .int oi4, .int oi5, .int oi6, .int oi7]))] := hD
    have g22 := w21
    have g22 : 0 ≤ x20.toInt ∧ x20.toInt ≤ 1 := g22
    refine lv_if_eq (tgt := 51) hx hb dX0_addWithM_44 (by decide) (fun k23 => ?_) (fun k23 => ?_)
    · have g24 : x20.toInt = 0 := gi_eq (rfl : x20.toInt = x20.toInt) (by decide : (0 : Int32).toInt = 0) k23
      refine lv_iload hx hb dX0_addWithM_51 (lv_at hl 0 rfl) ?_
      refine lv_imul hx hb dX0_addWithM_53 ?_
      refine lv_topi (fun x25 e26 => ?_)
      have g27 : x25.toInt = 64 * x16.toInt := g_mul e26 (by decide) rfl (by omega) (by omega)
      refine lv_bipush (v := 8) hx hb dX0_addWithM_54 (by decide) ?_
      refine lv_iload_n hx hb dX0_addWithM_56 rfl (lv_at hl 4 rfl) ?_
      refine lv_imul hx hb dX0_addWithM_57 ?_
      have g28 := g_i32 a1
      refine lv_topi (fun x29 e30 => ?_)
      refine lv_iadd hx hb dX0_addWithM_58 ?_
      have g31 := g_i32 x29
      refine lv_topi (fun x32 e33 => ?_)
      refine lv_aload_n hx hb dX0_addWithM_59 rfl (lv_at hl 3 rfl) ?_
      refine g_Vi (n := 0) (As := []) (rest := [.int x32, .ref t0]) (wr := [(t0, .inr (0, [.ref c0, .ref c1, .ref c2, .ref c3, .ref c4, .ref c5, .ref c6, .int x4])), (c0, .inl (dA 0, 248, .inl f5)), (c1, .inl (dA 0, 248, .inl f6)), (c2, .inl (dA 0, 248, .inl f7)), (c3, .inl (dA 0, 248, .inl f8)), (c4, .inl (dA 0, 248, .inl f9)), (c5, .inl (dA 0, 248, .inl f10)), (c6, .inl (dA 0, 248, .inl f11))]) hx hb hml hg hown hK hP hD hS hA (s_X7_mode l D dA o0 oi0 oi1 oi2 oi3 oi4 oi5 oi6 oi7 (by omega) _) [8] [0, 1, 2, 3, 4, 5, 6, 7] rfl (by decide) rfl (by decide) (by decide) 0 rfl rfl q1066 q154 q1071 q1064 q1065 (by decide +kernel) ⟨(Nat.le_of_ble_eq_true rfl), (Nat.le_of_ble_eq_true rfl)⟩ rfl hl.1 rfl (Nat.le_of_ble_eq_true rfl) dX0_addWithM_60 ⟨(Nat.le_of_ble_eq_true rfl), (Nat.le_of_ble_eq_true rfl)⟩ (fun x35 u34 H locs w36 hP hD hS => ?_)
      refine W.widen (k := 0) (n := 0) (Nat.le_of_ble_eq_true rfl) (Nat.le_of_ble_eq_true rfl) ?_
      have hP : va_P D vwC [(t0, .inr (0, [.ref c0, .ref c1, .ref c2, .ref c3, .ref c4, .ref c5, .ref c6, .int x4])), (c0, .inl (dA 0, 248, .inl f5)), (c1, .inl (dA 0, 248, .inl f6)), (c2, .inl (dA 0, 248, .inl f7)), (c3, .inl (dA 0, 248, .inl f8)), (c4, .inl (dA 0, 248, .inl f9)), (c5, .inl (dA 0, 248, .inl f10)), (c6, .inl (dA 0, 248, .inl f11)), (o0, .inr (7, [.int oi0, .int oi1, .int oi2, .int oi3, .int oi4, .int oi5, .int oi6, .int oi7]))] H := hP
      have hD : va_D A [(t0, .inr (0, [.ref c0, .ref c1, .ref c2, .ref c3, .ref c4, .ref c5, .ref c6, .int x4])), (c0, .inl (dA 0, 248, .inl f5)), (c1, .inl (dA 0, 248, .inl f6)), (c2, .inl (dA 0, 248, .inl f7)), (c3, .inl (dA 0, 248, .inl f8)), (c4, .inl (dA 0, 248, .inl f9)), (c5, .inl (dA 0, 248, .inl f10)), (c6, .inl (dA 0, 248, .inl f11)), (o0, .inr (7, [.int oi0, .int oi1, .int oi2, .int oi3, .int oi4, .int oi5, .int oi6, .int oi7]))] := hD
      refine lv_iadd hx hb dX0_addWithM_63 ?_
      have g37 := g_i32 x32
      have g38 := g_i32 x35
      refine lv_topi (fun x39 e40 => ?_)
      refine g_Vv (n := 1) (As := [.int x39]) (rest := []) (wr := [(o0, .inr (7, [.int oi0, .int oi1, .int oi2, .int oi3, .int oi4, .int oi5, .int oi6, .int oi7]))]) hx hb hml hg hown hK hP hD hS hA (s_X0_addByte l D dA t0 x39 c0 c1 c2 c3 c4 c5 c6 x4 f5 f6 f7 f8 f9 f10 f11 (by omega) _) [0, 1, 2, 3, 4, 5, 6, 7] [8] rfl (by decide) rfl (by decide) (by decide) 0 rfl rfl q1050 q152 q1047 q1048 q1049 (by decide +kernel) ⟨(Nat.le_of_ble_eq_true rfl), (Nat.le_of_ble_eq_true rfl)⟩ rfl hl.1 rfl (Nat.le_of_ble_eq_true rfl) dX0_addWithM_64 ⟨(Nat.le_of_ble_eq_true rfl), (Nat.le_of_ble_eq_true rfl)⟩ (fun u41 H locs w43 hP hD hS => ?_)
      refine W.widen (k := 0) (n := 0) (Nat.le_of_ble_eq_true rfl) (Nat.le_of_ble_eq_true rfl) ?_
      obtain ⟨x44, f45, f46, f47, f48, f49, f50, f51⟩ := u41
      have hP : va_P D vwC [(o0, .inr (7, [.int oi0, .int oi1, .int oi2, .int oi3, .int oi4, .int oi5, .int oi6, .int oi7])), (t0, .inr (0, [.ref c0, .ref c1, .ref c2, .ref c3, .ref c4, .ref c5, .ref c6, .int x44])), (c0, .inl (dA 0, 248, .inl f45)), (c1, .inl (dA 0, 248, .inl f46)), (c2, .inl (dA 0, 248, .inl f47)), (c3, .inl (dA 0, 248, .inl f48)), (c4, .inl (dA 0, 248, .inl f49)), (c5, .inl (dA 0, 248, .inl f50)), (c6, .inl (dA 0, 248, .inl f51))] H := hP
      have hD : va_D A [(o0, .inr (7, [.int oi0, .int oi1, .int oi2, .int oi3, .int oi4, .int oi5, .int oi6, .int oi7])), (t0, .inr (0, [.ref c0, .ref c1, .ref c2, .ref c3, .ref c4, .ref c5, .ref c6, .int x44])), (c0, .inl (dA 0, 248, .inl f45)), (c1, .inl (dA 0, 248, .inl f46)), (c2, .inl (dA 0, 248, .inl f47)), (c3, .inl (dA 0, 248, .inl f48)), (c4, .inl (dA 0, 248, .inl f49)), (c5, .inl (dA 0, 248, .inl f50)), (c6, .inl (dA 0, 248, .inl f51))] := hD
      have g52 := w43
      have g52 : 0 ≤ x44.toInt ∧ x44.toInt ≤ 248 := g52
      refine lv_iload hx hb dX0_addWithM_67 (lv_at hl 0 rfl) ?_
      refine lv_iconst (v := 1) hx hb dX0_addWithM_69 (by decide) ?_
      refine lv_icmp_ne (tgt := 84) hx hb dX0_addWithM_70 (by decide) (fun k53 => ?_) (fun k53 => ?_)
      · have g54 : x16.toInt ≠ 1 := gi_neq (rfl : x16.toInt = x16.toInt) (by decide : (1 : Int32).toInt = 1) k53
        refine lv_iload hx hb dX0_addWithM_84 (lv_at hl 0 rfl) ?_
        refine lv_iconst (v := 2) hx hb dX0_addWithM_86 (by decide) ?_
        refine lv_icmp_ne (tgt := 95) hx hb dX0_addWithM_87 (by decide) (fun k55 => ?_) (fun k55 => ?_)
        · have g56 : x16.toInt ≠ 2 := gi_neq (rfl : x16.toInt = x16.toInt) (by decide : (2 : Int32).toInt = 2) k55
          obtain ⟨hP, hD⟩ := g_cut (is := [1, 2, 3, 4, 5, 6, 7, 8, 0]) (w' := [(t0, .inr (0, [.ref c0, .ref c1, .ref c2, .ref c3, .ref c4, .ref c5, .ref c6, .int x44])), (c0, .inl (dA 0, 248, .inl f45)), (c1, .inl (dA 0, 248, .inl f46)), (c2, .inl (dA 0, 248, .inl f47)), (c3, .inl (dA 0, 248, .inl f48)), (c4, .inl (dA 0, 248, .inl f49)), (c5, .inl (dA 0, 248, .inl f50)), (c6, .inl (dA 0, 248, .inl f51)), (o0, .inr (7, [.int oi0, .int oi1, .int oi2, .int oi3, .int oi4, .int oi5, .int oi6, .int oi7]))]) hP hD (by decide) rfl rfl
          exact g_vret hx hb hr hlocks hK (x44, f45, f46, f47, f48, f49, f50, f51) hP hD hS (show 0 ≤ x44.toInt ∧ x44.toInt ≤ 248 from by omega) (Nat.le_of_ble_eq_true rfl) (Nat.le_of_ble_eq_true rfl) dX0_addWithM_95
        · have g57 : x16.toInt = 2 := gi_eq (rfl : x16.toInt = x16.toInt) (by decide : (2 : Int32).toInt = 2) k55
          refine lv_aload_n hx hb dX0_addWithM_90 rfl (lv_at hl 1 rfl) ?_
          refine lv_aload_n hx hb dX0_addWithM_91 rfl (lv_at hl 3 rfl) ?_
          refine g_Vv (n := 1) (As := [.ref o0]) (rest := []) (wr := []) hx hb hml hg hown hK hP hD hS hA (s_X0_addValue l D dA t0 o0 c0 c1 c2 c3 c4 c5 c6 x44 f45 f46 f47 f48 f49 f50 f51 oi0 oi1 oi2 oi3 oi4 oi5 oi6 oi7 (by omega) (by omega) _) [1, 2, 3, 4, 5, 6, 7, 8, 0] [] rfl (by decide) rfl (by decide) (by decide) 0 rfl rfl q1023 q152 q1072 q1021 q1022 (by decide +kernel) ⟨(Nat.le_of_ble_eq_true rfl), (Nat.le_of_ble_eq_true rfl)⟩ rfl hl.1 rfl (Nat.le_of_ble_eq_true rfl) dX0_addWithM_92 ⟨(Nat.le_of_ble_eq_true rfl), (Nat.le_of_ble_eq_true rfl)⟩ (fun u58 H locs w60 hP hD hS => ?_)
          refine W.widen (k := 0) (n := 0) (Nat.le_of_ble_eq_true rfl) (Nat.le_of_ble_eq_true rfl) ?_
          obtain ⟨x61, f62, f63, f64, f65, f66, f67, f68⟩ := u58
          have hP : va_P D vwC [(t0, .inr (0, [.ref c0, .ref c1, .ref c2, .ref c3, .ref c4, .ref c5, .ref c6, .int x61])), (c0, .inl (dA 0, 248, .inl f62)), (c1, .inl (dA 0, 248, .inl f63)), (c2, .inl (dA 0, 248, .inl f64)), (c3, .inl (dA 0, 248, .inl f65)), (c4, .inl (dA 0, 248, .inl f66)), (c5, .inl (dA 0, 248, .inl f67)), (c6, .inl (dA 0, 248, .inl f68)), (o0, .inr (7, [.int oi0, .int oi1, .int oi2, .int oi3, .int oi4, .int oi5, .int oi6, .int oi7]))] H := hP
          have hD : va_D A [(t0, .inr (0, [.ref c0, .ref c1, .ref c2, .ref c3, .ref c4, .ref c5, .ref c6, .int x61])), (c0, .inl (dA 0, 248, .inl f62)), (c1, .inl (dA 0, 248, .inl f63)), (c2, .inl (dA 0, 248, .inl f64)), (c3, .inl (dA 0, 248, .inl f65)), (c4, .inl (dA 0, 248, .inl f66)), (c5, .inl (dA 0, 248, .inl f67)), (c6, .inl (dA 0, 248, .inl f68)), (o0, .inr (7, [.int oi0, .int oi1, .int oi2, .int oi3, .int oi4, .int oi5, .int oi6, .int oi7]))] := hD
          have g69 := w60
          have g69 : 0 ≤ x61.toInt ∧ x61.toInt ≤ 248 := g69
          exact g_vret hx hb hr hlocks hK (x61, f62, f63, f64, f65, f66, f67, f68) hP hD hS (show 0 ≤ x61.toInt ∧ x61.toInt ≤ 248 from by omega) (Nat.le_of_ble_eq_true rfl) (Nat.le_of_ble_eq_true rfl) dX0_addWithM_95
      · have g70 : x16.toInt = 1 := gi_eq (rfl : x16.toInt = x16.toInt) (by decide : (1 : Int32).toInt = 1) k53
        refine lv_aload_n hx hb dX0_addWithM_73 rfl (lv_at hl 1 rfl) ?_
        refine lv_aload_n hx hb dX0_addWithM_74 rfl (lv_at hl 3 rfl) ?_
        refine g_get hx hb hg hown hK hP 0 rfl rfl inX7 2 (by decide) q314 rfl dX0_addWithM_75 ?_
        refine g_Vv (n := 1) (As := [.int oi2]) (rest := []) (wr := [(o0, .inr (7, [.int oi0, .int oi1, .int oi2, .int oi3, .int oi4, .int oi5, .int oi6, .int oi7]))]) hx hb hml hg hown hK hP hD hS hA (s_X0_addByte l D dA t0 oi2 c0 c1 c2 c3 c4 c5 c6 x44 f45 f46 f47 f48 f49 f50 f51 (by omega) _) [1, 2, 3, 4, 5, 6, 7, 8] [0] rfl (by decide) rfl (by decide) (by decide) 0 rfl rfl q1050 q152 q1047 q1048 q1049 (by decide +kernel) ⟨(Nat.le_of_ble_eq_true rfl), (Nat.le_of_ble_eq_true rfl)⟩ rfl hl.1 rfl (Nat.le_of_ble_eq_true rfl) dX0_addWithM_78 ⟨(Nat.le_of_ble_eq_true rfl), (Nat.le_of_ble_eq_true rfl)⟩ (fun u71 H locs w73 hP hD hS => ?_)
        refine W.widen (k := 0) (n := 0) (Nat.le_of_ble_eq_true rfl) (Nat.le_of_ble_eq_true rfl) ?_
        obtain ⟨x74, f75, f76, f77, f78, f79, f80, f81⟩ := u71
        have hP : va_P D vwC [(o0, .inr (7, [.int oi0, .int oi1, .int oi2, .int oi3, .int oi4, .int oi5, .int oi6, .int oi7])), (t0, .inr (0, [.ref c0, .ref c1, .ref c2, .ref c3, .ref c4, .ref c5, .ref c6, .int x74])), (c0, .inl (dA 0, 248, .inl f75)), (c1, .inl (dA 0, 248, .inl f76)), (c2, .inl (dA 0, 248, .inl f77)), (c3, .inl (dA 0, 248, .inl f78)), (c4, .inl (dA 0, 248, .inl f79)), (c5, .inl (dA 0, 248, .inl f80)), (c6, .inl (dA 0, 248, .inl f81))] H := hP
        have hD : va_D A [(o0, .inr (7, [.int oi0, .int oi1, .int oi2, .int oi3, .int oi4, .int oi5, .int oi6, .int oi7])), (t0, .inr (0, [.ref c0, .ref c1, .ref c2, .ref c3, .ref c4, .ref c5, .ref c6, .int x74])), (c0, .inl (dA 0, 248, .inl f75)), (c1, .inl (dA 0, 248, .inl f76)), (c2, .inl (dA 0, 248, .inl f77)), (c3, .inl (dA 0, 248, .inl f78)), (c4, .inl (dA 0, 248, .inl f79)), (c5, .inl (dA 0, 248, .inl f80)), (c6, .inl (dA 0, 248, .inl f81))] := hD
        have g82 := w73
        have g82 : 0 ≤ x74.toInt ∧ x74.toInt ≤ 248 := g82
        refine lv_goto (tgt := 95) hx hb dX0_addWithM_81 (by decide) ?_
        obtain ⟨hP, hD⟩ := g_cut (is := [1, 2, 3, 4, 5, 6, 7, 8, 0]) (w' := [(t0, .inr (0, [.ref c0, .ref c1, .ref c2, .ref c3, .ref c4, .ref c5, .ref c6, .int x74])), (c0, .inl (dA 0, 248, .inl f75)), (c1, .inl (dA 0, 248, .inl f76)), (c2, .inl (dA 0, 248, .inl f77)), (c3, .inl (dA 0, 248, .inl f78)), (c4, .inl (dA 0, 248, .inl f79)), (c5, .inl (dA 0, 248, .inl f80)), (c6, .inl (dA 0, 248, .inl f81)), (o0, .inr (7, [.int oi0, .int oi1, .int oi2, .int oi3, .int oi4, .int oi5, .int oi6, .int oi7]))]) hP hD (by decide) rfl rfl
        exact g_vret hx hb hr hlocks hK (x74, f75, f76, f77, f78, f79, f80, f81) hP hD hS (show 0 ≤ x74.toInt ∧ x74.toInt ≤ 248 from by omega) (Nat.le_of_ble_eq_true rfl) (Nat.le_of_ble_eq_true rfl) dX0_addWithM_95
    · have g83 : x20.toInt ≠ 0 := gi_neq (rfl : x20.toInt = x20.toInt) (by decide : (0 : Int32).toInt = 0) k23
      refine lv_iconst (v := 0) hx hb dX0_addWithM_47 (by decide) ?_
      refine lv_goto (tgt := 53) hx hb dX0_addWithM_48 (by decide) ?_
      refine lv_imul hx hb dX0_addWithM_53 ?_
      refine g_nrm (y := 0) (by decide) ?_
      refine lv_bipush (v := 8) hx hb dX0_addWithM_54 (by decide) ?_
      refine lv_iload_n hx hb dX0_addWithM_56 rfl (lv_at hl 4 rfl) ?_
      refine lv_imul hx hb dX0_addWithM_57 ?_
      have g84 := g_i32 a1
      refine lv_topi (fun x85 e86 => ?_)
      refine lv_iadd hx hb dX0_addWithM_58 ?_
      have g87 := g_i32 x85
      refine lv_topi (fun x88 e89 => ?_)
      have g90 : x88.toInt = 0 + x85.toInt := g_add e89 (by decide) rfl (by omega) (by omega)
      refine lv_aload_n hx hb dX0_addWithM_59 rfl (lv_at hl 3 rfl) ?_
      refine g_Vi (n := 0) (As := []) (rest := [.int x88, .ref t0]) (wr := [(t0, .inr (0, [.ref c0, .ref c1, .ref c2, .ref c3, .ref c4, .ref c5, .ref c6, .int x4])), (c0, .inl (dA 0, 248, .inl f5)), (c1, .inl (dA 0, 248, .inl f6)), (c2, .inl (dA 0, 248, .inl f7)), (c3, .inl (dA 0, 248, .inl f8)), (c4, .inl (dA 0, 248, .inl f9)), (c5, .inl (dA 0, 248, .inl f10)), (c6, .inl (dA 0, 248, .inl f11))]) hx hb hml hg hown hK hP hD hS hA (s_X7_mode l D dA o0 oi0 oi1 oi2 oi3 oi4 oi5 oi6 oi7 (by omega) _) [8] [0, 1, 2, 3, 4, 5, 6, 7] rfl (by decide) rfl (by decide) (by decide) 0 rfl rfl q1066 q154 q1071 q1064 q1065 (by decide +kernel) ⟨(Nat.le_of_ble_eq_true rfl), (Nat.le_of_ble_eq_true rfl)⟩ rfl hl.1 rfl (Nat.le_of_ble_eq_true rfl) dX0_addWithM_60 ⟨(Nat.le_of_ble_eq_true rfl), (Nat.le_of_ble_eq_true rfl)⟩ (fun x92 u91 H locs w93 hP hD hS => ?_)
      refine W.widen (k := 0) (n := 0) (Nat.le_of_ble_eq_true rfl) (Nat.le_of_ble_eq_true rfl) ?_
      have hP : va_P D vwC [(t0, .inr (0, [.ref c0, .ref c1, .ref c2, .ref c3, .ref c4, .ref c5, .ref c6, .int x4])), (c0, .inl (dA 0, 248, .inl f5)), (c1, .inl (dA 0, 248, .inl f6)), (c2, .inl (dA 0, 248, .inl f7)), (c3, .inl (dA 0, 248, .inl f8)), (c4, .inl (dA 0, 248, .inl f9)), (c5, .inl (dA 0, 248, .inl f10)), (c6, .inl (dA 0, 248, .inl f11)), (o0, .inr (7, [.int oi0, .int oi1, .int oi2, .int oi3, .int oi4, .int oi5, .int oi6, .int oi7]))] H := hP
      have hD : va_D A [(t0, .inr (0, [.ref c0, .ref c1, .ref c2, .ref c3, .ref c4, .ref c5, .ref c6, .int x4])), (c0, .inl (dA 0, 248, .inl f5)), (c1, .inl (dA 0, 248, .inl f6)), (c2, .inl (dA 0, 248, .inl f7)), (c3, .inl (dA 0, 248, .inl f8)), (c4, .inl (dA 0, 248, .inl f9)), (c5, .inl (dA 0, 248, .inl f10)), (c6, .inl (dA 0, 248, .inl f11)), (o0, .inr (7, [.int oi0, .int oi1, .int oi2, .int oi3, .int oi4, .int oi5, .int oi6, .int oi7]))] := hD
      refine lv_iadd hx hb dX0_addWithM_63 ?_
      have g94 := g_i32 x88
      have g95 := g_i32 x92
      refine lv_topi (fun x96 e97 => ?_)
      refine g_Vv (n := 1) (As := [.int x96]) (rest := []) (wr := [(o0, .inr (7, [.int oi0, .int oi1, .int oi2, .int oi3, .int oi4, .int oi5, .int oi6, .int oi7]))]) hx hb hml hg hown hK hP hD hS hA (s_X0_addByte l D dA t0 x96 c0 c1 c2 c3 c4 c5 c6 x4 f5 f6 f7 f8 f9 f10 f11 (by omega) _) [0, 1, 2, 3, 4, 5, 6, 7] [8] rfl (by decide) rfl (by decide) (by decide) 0 rfl rfl q1050 q152 q1047 q1048 q1049 (by decide +kernel) ⟨(Nat.le_of_ble_eq_true rfl), (Nat.le_of_ble_eq_true rfl)⟩ rfl hl.1 rfl (Nat.le_of_ble_eq_true rfl) dX0_addWithM_64 ⟨(Nat.le_of_ble_eq_true rfl), (Nat.le_of_ble_eq_true rfl)⟩ (fun u98 H locs w100 hP hD hS => ?_)
      refine W.widen (k := 0) (n := 0) (Nat.le_of_ble_eq_true rfl) (Nat.le_of_ble_eq_true rfl) ?_
      obtain ⟨x101, f102, f103, f104, f105, f106, f107, f108⟩ := u98
      have hP : va_P D vwC [(o0, .inr (7, [.int oi0, .int oi1, .int oi2, .int oi3, .int oi4, .int oi5, .int oi6, .int oi7])), (t0, .inr (0, [.ref c0, .ref c1, .ref c2, .ref c3, .ref c4, .ref c5, .ref c6, .int x101])), (c0, .inl (dA 0, 248, .inl f102)), (c1, .inl (dA 0, 248, .inl f103)), (c2, .inl (dA 0, 248, .inl f104)), (c3, .inl (dA 0, 248, .inl f105)), (c4, .inl (dA 0, 248, .inl f106)), (c5, .inl (dA 0, 248, .inl f107)), (c6, .inl (dA 0, 248, .inl f108))] H := hP
      have hD : va_D A [(o0, .inr (7, [.int oi0, .int oi1, .int oi2, .int oi3, .int oi4, .int oi5, .int oi6, .int oi7])), (t0, .inr (0, [.ref c0, .ref c1, .ref c2, .ref c3, .ref c4, .ref c5, .ref c6, .int x101])), (c0, .inl (dA 0, 248, .inl f102)), (c1, .inl (dA 0, 248, .inl f103)), (c2, .inl (dA 0, 248, .inl f104)), (c3, .inl (dA 0, 248, .inl f105)), (c4, .inl (dA 0, 248, .inl f106)), (c5, .inl (dA 0, 248, .inl f107)), (c6, .inl (dA 0, 248, .inl f108))] := hD
      have g109 := w100
      have g109 : 0 ≤ x101.toInt ∧ x101.toInt ≤ 248 := g109
      refine lv_iload hx hb dX0_addWithM_67 (lv_at hl 0 rfl) ?_
      refine lv_iconst (v := 1) hx hb dX0_addWithM_69 (by decide) ?_
      refine lv_icmp_ne (tgt := 84) hx hb dX0_addWithM_70 (by decide) (fun k110 => ?_) (fun k110 => ?_)
      · have g111 : x16.toInt ≠ 1 := gi_neq (rfl : x16.toInt = x16.toInt) (by decide : (1 : Int32).toInt = 1) k110
        refine lv_iload hx hb dX0_addWithM_84 (lv_at hl 0 rfl) ?_
        refine lv_iconst (v := 2) hx hb dX0_addWithM_86 (by decide) ?_
        refine lv_icmp_ne (tgt := 95) hx hb dX0_addWithM_87 (by decide) (fun k112 => ?_) (fun k112 => ?_)
        · have g113 : x16.toInt ≠ 2 := gi_neq (rfl : x16.toInt = x16.toInt) (by decide : (2 : Int32).toInt = 2) k112
          obtain ⟨hP, hD⟩ := g_cut (is := [1, 2, 3, 4, 5, 6, 7, 8, 0]) (w' := [(t0, .inr (0, [.ref c0, .ref c1, .ref c2, .ref c3, .ref c4, .ref c5, .ref c6, .int x101])), (c0, .inl (dA 0, 248, .inl f102)), (c1, .inl (dA 0, 248, .inl f103)), (c2, .inl (dA 0, 248, .inl f104)), (c3, .inl (dA 0, 248, .inl f105)), (c4, .inl (dA 0, 248, .inl f106)), (c5, .inl (dA 0, 248, .inl f107)), (c6, .inl (dA 0, 248, .inl f108)), (o0, .inr (7, [.int oi0, .int oi1, .int oi2, .int oi3, .int oi4, .int oi5, .int oi6, .int oi7]))]) hP hD (by decide) rfl rfl
          exact g_vret hx hb hr hlocks hK (x101, f102, f103, f104, f105, f106, f107, f108) hP hD hS (show 0 ≤ x101.toInt ∧ x101.toInt ≤ 248 from by omega) (Nat.le_of_ble_eq_true rfl) (Nat.le_of_ble_eq_true rfl) dX0_addWithM_95
        · have g114 : x16.toInt = 2 := gi_eq (rfl : x16.toInt = x16.toInt) (by decide : (2 : Int32).toInt = 2) k112
          refine lv_aload_n hx hb dX0_addWithM_90 rfl (lv_at hl 1 rfl) ?_
          refine lv_aload_n hx hb dX0_addWithM_91 rfl (lv_at hl 3 rfl) ?_
          refine g_Vv (n := 1) (As := [.ref o0]) (rest := []) (wr := []) hx hb hml hg hown hK hP hD hS hA (s_X0_addValue l D dA t0 o0 c0 c1 c2 c3 c4 c5 c6 x101 f102 f103 f104 f105 f106 f107 f108 oi0 oi1 oi2 oi3 oi4 oi5 oi6 oi7 (by omega) (by omega) _) [1, 2, 3, 4, 5, 6, 7, 8, 0] [] rfl (by decide) rfl (by decide) (by decide) 0 rfl rfl q1023 q152 q1072 q1021 q1022 (by decide +kernel) ⟨(Nat.le_of_ble_eq_true rfl), (Nat.le_of_ble_eq_true rfl)⟩ rfl hl.1 rfl (Nat.le_of_ble_eq_true rfl) dX0_addWithM_92 ⟨(Nat.le_of_ble_eq_true rfl), (Nat.le_of_ble_eq_true rfl)⟩ (fun u115 H locs w117 hP hD hS => ?_)
          refine W.widen (k := 0) (n := 0) (Nat.le_of_ble_eq_true rfl) (Nat.le_of_ble_eq_true rfl) ?_
          obtain ⟨x118, f119, f120, f121, f122, f123, f124, f125⟩ := u115
          have hP : va_P D vwC [(t0, .inr (0, [.ref c0, .ref c1, .ref c2, .ref c3, .ref c4, .ref c5, .ref c6, .int x118])), (c0, .inl (dA 0, 248, .inl f119)), (c1, .inl (dA 0, 248, .inl f120)), (c2, .inl (dA 0, 248, .inl f121)), (c3, .inl (dA 0, 248, .inl f122)), (c4, .inl (dA 0, 248, .inl f123)), (c5, .inl (dA 0, 248, .inl f124)), (c6, .inl (dA 0, 248, .inl f125)), (o0, .inr (7, [.int oi0, .int oi1, .int oi2, .int oi3, .int oi4, .int oi5, .int oi6, .int oi7]))] H := hP
          have hD : va_D A [(t0, .inr (0, [.ref c0, .ref c1, .ref c2, .ref c3, .ref c4, .ref c5, .ref c6, .int x118])), (c0, .inl (dA 0, 248, .inl f119)), (c1, .inl (dA 0, 248, .inl f120)), (c2, .inl (dA 0, 248, .inl f121)), (c3, .inl (dA 0, 248, .inl f122)), (c4, .inl (dA 0, 248, .inl f123)), (c5, .inl (dA 0, 248, .inl f124)), (c6, .inl (dA 0, 248, .inl f125)), (o0, .inr (7, [.int oi0, .int oi1, .int oi2, .int oi3, .int oi4, .int oi5, .int oi6, .int oi7]))] := hD
          have g126 := w117
          have g126 : 0 ≤ x118.toInt ∧ x118.toInt ≤ 248 := g126
          exact g_vret hx hb hr hlocks hK (x118, f119, f120, f121, f122, f123, f124, f125) hP hD hS (show 0 ≤ x118.toInt ∧ x118.toInt ≤ 248 from by omega) (Nat.le_of_ble_eq_true rfl) (Nat.le_of_ble_eq_true rfl) dX0_addWithM_95
      · have g127 : x16.toInt = 1 := gi_eq (rfl : x16.toInt = x16.toInt) (by decide : (1 : Int32).toInt = 1) k110
        refine lv_aload_n hx hb dX0_addWithM_73 rfl (lv_at hl 1 rfl) ?_
        refine lv_aload_n hx hb dX0_addWithM_74 rfl (lv_at hl 3 rfl) ?_
        refine g_get hx hb hg hown hK hP 0 rfl rfl inX7 2 (by decide) q314 rfl dX0_addWithM_75 ?_
        refine g_Vv (n := 1) (As := [.int oi2]) (rest := []) (wr := [(o0, .inr (7, [.int oi0, .int oi1, .int oi2, .int oi3, .int oi4, .int oi5, .int oi6, .int oi7]))]) hx hb hml hg hown hK hP hD hS hA (s_X0_addByte l D dA t0 oi2 c0 c1 c2 c3 c4 c5 c6 x101 f102 f103 f104 f105 f106 f107 f108 (by omega) _) [1, 2, 3, 4, 5, 6, 7, 8] [0] rfl (by decide) rfl (by decide) (by decide) 0 rfl rfl q1050 q152 q1047 q1048 q1049 (by decide +kernel) ⟨(Nat.le_of_ble_eq_true rfl), (Nat.le_of_ble_eq_true rfl)⟩ rfl hl.1 rfl (Nat.le_of_ble_eq_true rfl) dX0_addWithM_78 ⟨(Nat.le_of_ble_eq_true rfl), (Nat.le_of_ble_eq_true rfl)⟩ (fun u128 H locs w130 hP hD hS => ?_)
        refine W.widen (k := 0) (n := 0) (Nat.le_of_ble_eq_true rfl) (Nat.le_of_ble_eq_true rfl) ?_
        obtain ⟨x131, f132, f133, f134, f135, f136, f137, f138⟩ := u128
        have hP : va_P D vwC [(o0, .inr (7, [.int oi0, .int oi1, .int oi2, .int oi3, .int oi4, .int oi5, .int oi6, .int oi7])), (t0, .inr (0, [.ref c0, .ref c1, .ref c2, .ref c3, .ref c4, .ref c5, .ref c6, .int x131])), (c0, .inl (dA 0, 248, .inl f132)), (c1, .inl (dA 0, 248, .inl f133)), (c2, .inl (dA 0, 248, .inl f134)), (c3, .inl (dA 0, 248, .inl f135)), (c4, .inl (dA 0, 248, .inl f136)), (c5, .inl (dA 0, 248, .inl f137)), (c6, .inl (dA 0, 248, .inl f138))] H := hP
        have hD : va_D A [(o0, .inr (7, [.int oi0, .int oi1, .int oi2, .int oi3, .int oi4, .int oi5, .int oi6, .int oi7])), (t0, .inr (0, [.ref c0, .ref c1, .ref c2, .ref c3, .ref c4, .ref c5, .ref c6, .int x131])), (c0, .inl (dA 0, 248, .inl f132)), (c1, .inl (dA 0, 248, .inl f133)), (c2, .inl (dA 0, 248, .inl f134)), (c3, .inl (dA 0, 248, .inl f135)), (c4, .inl (dA 0, 248, .inl f136)), (c5, .inl (dA 0, 248, .inl f137)), (c6, .inl (dA 0, 248, .inl f138))] := hD
        have g139 := w130
        have g139 : 0 ≤ x131.toInt ∧ x131.toInt ≤ 248 := g139
        refine lv_goto (tgt := 95) hx hb dX0_addWithM_81 (by decide) ?_
        obtain ⟨hP, hD⟩ := g_cut (is := [1, 2, 3, 4, 5, 6, 7, 8, 0]) (w' := [(t0, .inr (0, [.ref c0, .ref c1, .ref c2, .ref c3, .ref c4, .ref c5, .ref c6, .int x131])), (c0, .inl (dA 0, 248, .inl f132)), (c1, .inl (dA 0, 248, .inl f133)), (c2, .inl (dA 0, 248, .inl f134)), (c3, .inl (dA 0, 248, .inl f135)), (c4, .inl (dA 0, 248, .inl f136)), (c5, .inl (dA 0, 248, .inl f137)), (c6, .inl (dA 0, 248, .inl f138)), (o0, .inr (7, [.int oi0, .int oi1, .int oi2, .int oi3, .int oi4, .int oi5, .int oi6, .int oi7]))]) hP hD (by decide) rfl rfl
        exact g_vret hx hb hr hlocks hK (x131, f132, f133, f134, f135, f136, f137, f138) hP hD hS (show 0 ≤ x131.toInt ∧ x131.toInt ≤ 248 from by omega) (Nat.le_of_ble_eq_true rfl) (Nat.le_of_ble_eq_true rfl) dX0_addWithM_95
  · have g140 : oi0.toInt = 1 := gi_eq (rfl : oi0.toInt = oi0.toInt) (by decide : (1 : Int32).toInt = 1) k13
    refine lv_aload_n hx hb dX0_addWithM_13 rfl (lv_at hl 0 rfl) ?_
    refine lv_sipush (v := 192) hx hb dX0_addWithM_14 (by decide) ?_
    refine lv_bipush (v := 8) hx hb dX0_addWithM_17 (by decide) ?_
    refine lv_iload_n hx hb dX0_addWithM_19 rfl (lv_at hl 3 rfl) ?_
    refine lv_imul hx hb dX0_addWithM_20 ?_
    have g141 := g_i32 a1
    refine lv_topi (fun x142 e143 => ?_)
    refine lv_iadd hx hb dX0_addWithM_21 ?_
    have g144 := g_i32 x142
    refine lv_topi (fun x145 e146 => ?_)
    refine lv_aload_n hx hb dX0_addWithM_22 rfl (lv_at hl 2 rfl) ?_
    refine g_get hx hb hg hown hK hP 0 rfl rfl inX7 1 (by decide) q311 rfl dX0_addWithM_23 ?_
    refine lv_iadd hx hb dX0_addWithM_26 ?_
    have g147 := g_i32 x145
    have g148 := g_i32 oi1
    refine lv_topi (fun x149 e150 => ?_)
    refine g_Vv (n := 1) (As := [.int x149]) (rest := []) (wr := [(o0, .inr (7, [.int oi0, .int oi1, .int oi2, .int oi3, .int oi4, .int oi5, .int oi6, .int oi7]))]) hx hb hml hg hown hK hP hD hS hA (s_X0_addByte l D dA t0 x149 c0 c1 c2 c3 c4 c5 c6 x4 f5 f6 f7 f8 f9 f10 f11 (by omega) _) [1, 2, 3, 4, 5, 6, 7, 8] [0] rfl (by decide) rfl (by decide) (by decide) 0 rfl rfl q1050 q152 q1047 q1048 q1049 (by decide +kernel) ⟨(Nat.le_of_ble_eq_true rfl), (Nat.le_of_ble_eq_true rfl)⟩ rfl hl.1 rfl (Nat.le_of_ble_eq_true rfl) dX0_addWithM_27 ⟨(Nat.le_of_ble_eq_true rfl), (Nat.le_of_ble_eq_true rfl)⟩ (fun u151 H locs w153 hP hD hS => ?_)
    refine W.widen (k := 0) (n := 0) (Nat.le_of_ble_eq_true rfl) (Nat.le_of_ble_eq_true rfl) ?_
    obtain ⟨x154, f155, f156, f157, f158, f159, f160, f161⟩ := u151
    have hP : va_P D vwC [(o0, .inr (7, [.int oi0, .int oi1, .int oi2, .int oi3, .int oi4, .int oi5, .int oi6, .int oi7])), (t0, .inr (0, [.ref c0, .ref c1, .ref c2, .ref c3, .ref c4, .ref c5, .ref c6, .int x154])), (c0, .inl (dA 0, 248, .inl f155)), (c1, .inl (dA 0, 248, .inl f156)), (c2, .inl (dA 0, 248, .inl f157)), (c3, .inl (dA 0, 248, .inl f158)), (c4, .inl (dA 0, 248, .inl f159)), (c5, .inl (dA 0, 248, .inl f160)), (c6, .inl (dA 0, 248, .inl f161))] H := hP
    have hD : va_D A [(o0, .inr (7, [.int oi0, .int oi1, .int oi2, .int oi3, .int oi4, .int oi5, .int oi6, .int oi7])), (t0, .inr (0, [.ref c0, .ref c1, .ref c2, .ref c3, .ref c4, .ref c5, .ref c6, .int x154])), (c0, .inl (dA 0, 248, .inl f155)), (c1, .inl (dA 0, 248, .inl f156)), (c2, .inl (dA 0, 248, .inl f157)), (c3, .inl (dA 0, 248, .inl f158)), (c4, .inl (dA 0, 248, .inl f159)), (c5, .inl (dA 0, 248, .inl f160)), (c6, .inl (dA 0, 248, .inl f161))] := hD
    have g162 := w153
    have g162 : 0 ≤ x154.toInt ∧ x154.toInt ≤ 248 := g162
    obtain ⟨hP, hD⟩ := g_cut (is := [1, 2, 3, 4, 5, 6, 7, 8, 0]) (w' := [(t0, .inr (0, [.ref c0, .ref c1, .ref c2, .ref c3, .ref c4, .ref c5, .ref c6, .int x154])), (c0, .inl (dA 0, 248, .inl f155)), (c1, .inl (dA 0, 248, .inl f156)), (c2, .inl (dA 0, 248, .inl f157)), (c3, .inl (dA 0, 248, .inl f158)), (c4, .inl (dA 0, 248, .inl f159)), (c5, .inl (dA 0, 248, .inl f160)), (c6, .inl (dA 0, 248, .inl f161)), (o0, .inr (7, [.int oi0, .int oi1, .int oi2, .int oi3, .int oi4, .int oi5, .int oi6, .int oi7]))]) hP hD (by decide) rfl rfl
    exact g_vret hx hb hr hlocks hK (x154, f155, f156, f157, f158, f159, f160, f161) hP hD hS (show 0 ≤ x154.toInt ∧ x154.toInt ≤ 248 from by omega) (Nat.le_of_ble_eq_true rfl) (Nat.le_of_ble_eq_true rfl) dX0_addWithM_30
