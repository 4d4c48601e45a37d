theorem q514 : Cond.fieldLink RX4 60 "SegmentBench$Image" "size" "I" ∈ gw := gw_in (i := 514) (by decide +kernel) rfl
theorem q517 : Cond.fieldLink RX4 65 "SegmentBench$Image" "bytes" "[I" ∈ gw := gw_in (i := 517) (by decide +kernel) rfl
theorem q521 : Cond.fieldLink RX4 68 "SegmentBench$Image" "relocations" "I" ∈ gw := gw_in (i := 521) (by decide +kernel) rfl
theorem q524 : Cond.fieldLink RX4 71 "SegmentBench$Image" "relocation" "[I" ∈ gw := gw_in (i := 524) (by decide +kernel) rfl
theorem q526 : Cond.fieldLink RX4 82 "SegmentBench$Image" "mainParagraph" "I" ∈ gw := gw_in (i := 526) (by decide +kernel) rfl
theorem q529 : Cond.fieldLink RX4 85 "SegmentBench$Image" "mainOffset" "I" ∈ gw := gw_in (i := 529) (by decide +kernel) rfl
theorem q1374 : Cond.methodLink RX4 54 yJ7_fill_53178 ∈ gw := gw_in (i := 1374) (by decide +kernel) rfl
theorem dX4_start_0 : decode cX4_start 0 = .ok (.aload_n 0, 1) := by decide +kernel
theorem dX4_start_1 : decode cX4_start 1 = .ok (.getfield 9, 3) := by decide +kernel
theorem dX4_start_4 : decode cX4_start 4 = .ok (.iconst 0, 1) := by decide +kernel
theorem dX4_start_5 : decode cX4_start 5 = .ok (.invokestatic 54, 3) := by decide +kernel
theorem dX4_start_8 : decode cX4_start 8 = .ok (.bipush 16, 2) := by decide +kernel
theorem dX4_start_10 : decode cX4_start 10 = .ok (.iload_n 2, 1) := by decide +kernel
theorem dX4_start_11 : decode cX4_start 11 = .ok (.imul, 1) := by decide +kernel
theorem dX4_start_12 : decode cX4_start 12 = .ok (.istore_n 3, 1) := by decide +kernel
theorem dX4_start_13 : decode cX4_start 13 = .ok (.iconst 0, 1) := by decide +kernel
theorem dX4_start_14 : decode cX4_start 14 = .ok (.istore 4, 2) := by decide +kernel
theorem dX4_start_16 : decode cX4_start 16 = .ok (.iload 4, 2) := by decide +kernel
theorem dX4_start_18 : decode cX4_start 18 = .ok (.aload_n 1, 1) := by decide +kernel
theorem dX4_start_19 : decode cX4_start 19 = .ok (.getfield 60, 3) := by decide +kernel
theorem dX4_start_22 : decode cX4_start 22 = .ok (.if_icmp .ge 29, 3) := by decide +kernel
theorem dX4_start_51 : decode cX4_start 51 = .ok (.iconst 0, 1) := by decide +kernel
theorem dX4_start_52 : decode cX4_start 52 = .ok (.istore 4, 2) := by decide +kernel
theorem dX4_start_54 : decode cX4_start 54 = .ok (.iload 4, 2) := by decide +kernel
theorem dX4_start_56 : decode cX4_start 56 = .ok (.aload_n 1, 1) := by decide +kernel
theorem dX4_start_57 : decode cX4_start 57 = .ok (.getfield 68, 3) := by decide +kernel
theorem dX4_start_60 : decode cX4_start 60 = .ok (.if_icmp .ge 34, 3) := by decide +kernel
theorem dX4_start_94 : decode cX4_start 94 = .ok (.aload_n 0, 1) := by decide +kernel
theorem dX4_start_95 : decode cX4_start 95 = .ok (.getfield 13, 3) := by decide +kernel
theorem dX4_start_98 : decode cX4_start 98 = .ok (.iconst 0, 1) := by decide +kernel
theorem dX4_start_99 : decode cX4_start 99 = .ok (.invokestatic 54, 3) := by decide +kernel
theorem dX4_start_102 : decode cX4_start 102 = .ok (.aload_n 0, 1) := by decide +kernel
theorem dX4_start_103 : decode cX4_start 103 = .ok (.getfield 16, 3) := by decide +kernel
theorem dX4_start_106 : decode cX4_start 106 = .ok (.iload_n 2, 1) := by decide +kernel
theorem dX4_start_107 : decode cX4_start 107 = .ok (.invokestatic 54, 3) := by decide +kernel
theorem dX4_start_110 : decode cX4_start 110 = .ok (.aload_n 0, 1) := by decide +kernel
theorem dX4_start_111 : decode cX4_start 111 = .ok (.getfield 16, 3) := by decide +kernel
theorem dX4_start_114 : decode cX4_start 114 = .ok (.iconst 1, 1) := by decide +kernel
theorem dX4_start_115 : decode cX4_start 115 = .ok (.iload_n 2, 1) := by decide +kernel
theorem dX4_start_116 : decode cX4_start 116 = .ok (.aload_n 1, 1) := by decide +kernel
theorem dX4_start_117 : decode cX4_start 117 = .ok (.getfield 82, 3) := by decide +kernel
theorem dX4_start_120 : decode cX4_start 120 = .ok (.iadd, 1) := by decide +kernel
theorem dX4_start_121 : decode cX4_start 121 = .ok (.iastore, 1) := by decide +kernel
theorem dX4_start_122 : decode cX4_start 122 = .ok (.aload_n 0, 1) := by decide +kernel
theorem dX4_start_123 : decode cX4_start 123 = .ok (.aload_n 1, 1) := by decide +kernel
theorem dX4_start_124 : decode cX4_start 124 = .ok (.getfield 85, 3) := by decide +kernel
theorem dX4_start_127 : decode cX4_start 127 = .ok (.putfield 26, 3) := by decide +kernel
theorem dX4_start_130 : decode cX4_start 130 = .ok (.aload_n 0, 1) := by decide +kernel
theorem dX4_start_131 : decode cX4_start 131 = .ok (.iconst 0, 1) := by decide +kernel
theorem dX4_start_132 : decode cX4_start 132 = .ok (.putfield 30, 3) := by decide +kernel
theorem dX4_start_135 : decode cX4_start 135 = .ok (.aload_n 0, 1) := by decide +kernel
theorem dX4_start_136 : decode cX4_start 136 = .ok (.iconst 0, 1) := by decide +kernel
theorem dX4_start_137 : decode cX4_start 137 = .ok (.putfield 33, 3) := by decide +kernel
theorem dX4_start_140 : decode cX4_start 140 = .ok (.aload_n 0, 1) := by decide +kernel
theorem dX4_start_141 : decode cX4_start 141 = .ok (.iconst 0, 1) := by decide +kernel
theorem dX4_start_142 : decode cX4_start 142 = .ok (.putfield 36, 3) := by decide +kernel
theorem dX4_start_145 : decode cX4_start 145 = .ok (.aload_n 0, 1) := by decide +kernel
theorem dX4_start_146 : decode cX4_start 146 = .ok (.iconst 0, 1) := by decide +kernel
theorem dX4_start_147 : decode cX4_start 147 = .ok (.putfield 22, 3) := by decide +kernel
theorem dX4_start_150 : decode cX4_start 150 = .ok (.aload_n 0, 1) := by decide +kernel
theorem dX4_start_151 : decode cX4_start 151 = .ok (.iconst 0, 1) := by decide +kernel
theorem dX4_start_152 : decode cX4_start 152 = .ok (.putfield 39, 3) := by decide +kernel
theorem dX4_start_155 : decode cX4_start 155 = .ok (.aload_n 0, 1) := by decide +kernel
theorem dX4_start_156 : decode cX4_start 156 = .ok (.iconst 0, 1) := by decide +kernel
theorem dX4_start_157 : decode cX4_start 157 = .ok (.putfield 42, 3) := by decide +kernel
theorem dX4_start_160 : decode cX4_start 160 = .ok (.return_, 1) := by decide +kernel
theorem dX4_start_63 : decode cX4_start 63 = .ok (.iload_n 3, 1) := by decide +kernel
theorem dX4_start_64 : decode cX4_start 64 = .ok (.aload_n 1, 1) := by decide +kernel
theorem dX4_start_65 : decode cX4_start 65 = .ok (.getfield 71, 3) := by decide +kernel
theorem dX4_start_68 : decode cX4_start 68 = .ok (.iload 4, 2) := by decide +kernel
theorem dX4_start_70 : decode cX4_start 70 = .ok (.iaload, 1) := by decide +kernel
theorem dX4_start_71 : decode cX4_start 71 = .ok (.iadd, 1) := by decide +kernel
theorem dX4_start_72 : decode cX4_start 72 = .ok (.istore 5, 2) := by decide +kernel
theorem dX4_start_74 : decode cX4_start 74 = .ok (.aload_n 0, 1) := by decide +kernel
theorem dX4_start_75 : decode cX4_start 75 = .ok (.iload 5, 2) := by decide +kernel
theorem dX4_start_77 : decode cX4_start 77 = .ok (.aload_n 0, 1) := by decide +kernel
theorem dX4_start_78 : decode cX4_start 78 = .ok (.iload 5, 2) := by decide +kernel
theorem dX4_start_80 : decode cX4_start 80 = .ok (.invokevirtual 74, 3) := by decide +kernel
theorem dX4_start_83 : decode cX4_start 83 = .ok (.iload_n 2, 1) := by decide +kernel
theorem dX4_start_84 : decode cX4_start 84 = .ok (.iadd, 1) := by decide +kernel
theorem dX4_start_85 : decode cX4_start 85 = .ok (.invokevirtual 78, 3) := by decide +kernel
theorem dX4_start_88 : decode cX4_start 88 = .ok (.iinc 4 1, 3) := by decide +kernel
theorem dX4_start_91 : decode cX4_start 91 = .ok (.goto (-37), 3) := by decide +kernel
theorem dX4_start_25 : decode cX4_start 25 = .ok (.aload_n 0, 1) := by decide +kernel
theorem dX4_start_26 : decode cX4_start 26 = .ok (.getfield 9, 3) := by decide +kernel
theorem dX4_start_29 : decode cX4_start 29 = .ok (.iload_n 3, 1) := by decide +kernel
theorem dX4_start_30 : decode cX4_start 30 = .ok (.iload 4, 2) := by decide +kernel
theorem dX4_start_32 : decode cX4_start 32 = .ok (.iadd, 1) := by decide +kernel
theorem dX4_start_33 : decode cX4_start 33 = .ok (.sipush 4095, 3) := by decide +kernel
theorem dX4_start_36 : decode cX4_start 36 = .ok (.iand, 1) := by decide +kernel
theorem dX4_start_37 : decode cX4_start 37 = .ok (.aload_n 1, 1) := by decide +kernel
theorem dX4_start_38 : decode cX4_start 38 = .ok (.getfield 65, 3) := by decide +kernel
theorem dX4_start_41 : decode cX4_start 41 = .ok (.iload 4, 2) := by decide +kernel
theorem dX4_start_43 : decode cX4_start 43 = .ok (.iaload, 1) := by decide +kernel
theorem dX4_start_44 : decode cX4_start 44 = .ok (.iastore, 1) := by decide +kernel
theorem dX4_start_45 : decode cX4_start 45 = .ok (.iinc 4 1, 3) := by decide +kernel
theorem dX4_start_48 : decode cX4_start 48 = .ok (.goto (-32), 3) := by decide +kernel
set_option maxHeartbeats 4000000 in
set_option maxRecDepth 100000 in
theorem s_X4_start_L54 {p : Program} {e : Env} {s : State} {m : MethodId} {args : Array Value} {below : List Frame} {meth : Method} {c : Code} {l : Launch} {D : va_G} {dA : Nat → ClassId} {A : Nat → Prop} (hx : p.tables.exec = Jvm.exec) (hb : c.code = cX4_start) (hr : meth.sig.returnType = none) (hml : c.maxLocals = 6) (hown : s.vm.findClass RX4 = some m.cls) (hg : ∀ w ∈ gw, w.before args s = true) (hlocks : meth.locks = false) (hA : ∀ q : Nat, s.heap.size ≤ q → A q) (hK : gK D dA s) {t0 : Nat} {o0 : Nat} {a0 : Int32} {c0 : Nat} {c1 : Nat} {c2 : Nat} {i0 : Int32} {i1 : Int32} {i2 : Int32} {i3 : Int32} {i4 : Int32} {i5 : Int32} {i6 : Int32} {c3 : Nat} {i7 : Int32} {i8 : Int32} {i9 : Int32} {m1 : Nat → Int32} {m2 : Nat → Int32} {m3 : Nat → Int32} {oi0 : Int32} {oi1 : Int32} {oc2 : Nat} {oi3 : Int32} {oc4 : Nat} {oi5 : Int32} {oi6 : Int32} {om2 : Nat → Int32} {om4 : Nat → Int32} {x6 : Int32} (z0 : 0 ≤ x6.toInt ∧ x6.toInt ≤ 4080) (z1 : 0 ≤ a0.toInt ∧ a0.toInt ≤ 255) (z2 : 0 ≤ i4.toInt ∧ i4.toInt ≤ 1) (z3 : 0 ≤ i6.toInt ∧ i6.toInt ≤ 1000000) (z4 : 0 ≤ i7.toInt ∧ i7.toInt ≤ 7) (z5 : -1 ≤ i8.toInt ∧ i8.toInt ≤ 7) (z6 : 0 ≤ oi0.toInt ∧ oi0.toInt ≤ 1) (z7 : -2147483648 ≤ oi1.toInt ∧ oi1.toInt ≤ 1200) (z8 : 0 ≤ oi3.toInt ∧ oi3.toInt ≤ 600) (z9 : ∀ j : Nat, 0 ≤ (om2 j).toInt ∧ (om2 j).toInt ≤ 255) : ∀ (n : Nat) (v54_4 : Int32) (h54_7_f : Nat → Int32) , (0 ≤ v54_4.toInt ∧ v54_4.toInt ≤ 600) → (∀ j : Nat, 0 ≤ (h54_7_f j).toInt ∧ (h54_7_f j).toInt ≤ 255) → (oi3.toInt - v54_4.toInt).toNat < n → ∀ (H : Heap) (locs : List Loc) (ls : Array Slot), va_P D vwC [(t0, .inr (4, [.ref c0, .ref c1, .ref c2, .int i0, .int i1, .int i2, .int i3, .int i4, .int i5, .int i6, .ref c3, .int i7, .int i8, .int i9])), (c1, .inl (dA 0, 8, .inl m1)), (c2, .inl (dA 0, 4, .inl m2)), (c3, .inl (dA 0, 30, .inl m3)), (o0, .inr (1, [.int oi0, .int oi1, .ref oc2, .int oi3, .ref oc4, .int oi5, .int oi6])), (oc2, .inl (dA 0, 1200, .inl om2)), (oc4, .inl (dA 0, 600, .inl om4)), (c0, .inl (dA 0, 4096, .inl h54_7_f))] H → va_D A [(t0, .inr (4, [.ref c0, .ref c1, .ref c2, .int i0, .int i1, .int i2, .int i3, .int i4, .int i5, .int i6, .ref c3, .int i7, .int i8, .int i9])), (c1, .inl (dA 0, 8, .inl m1)), (c2, .inl (dA 0, 4, .inl m2)), (c3, .inl (dA 0, 30, .inl m3)), (o0, .inr (1, [.int oi0, .int oi1, .ref oc2, .int oi3, .ref oc4, .int oi5, .int oi6])), (oc2, .inl (dA 0, 1200, .inl om2)), (oc4, .inl (dA 0, 600, .inl om4)), (c0, .inl (dA 0, 4096, .inl h54_7_f))] → va_S A s.heap H locs → lv_has ls 6 [(4, .int v54_4), (3, .int x6), (0, .ref t0), (1, .ref o0), (2, .int a0)] → W p l e (gR 2 0 0) s m args below meth c H locs 0 0 (MQ below (va_Qv (fun u : Int32 × Int32 × Int32 × Int32 × Int32 × Int32 × Int32 × (Nat → Int32) × (Nat → Int32) × (Nat → Int32) => (0 ≤ u.2.2.2.2.1.toInt ∧ u.2.2.2.2.1.toInt ≤ 1) ∧ (∀ j : Nat, 0 ≤ (u.2.2.2.2.2.2.2.1 j).toInt ∧ (u.2.2.2.2.2.2.2.1 j).toInt ≤ 255)) (gAt D dA A (fun u : Int32 × Int32 × Int32 × Int32 × Int32 × Int32 × Int32 × (Nat → Int32) × (Nat → Int32) × (Nat → Int32) => [(t0, .inr (4, [.ref c0, .ref c1, .ref c2, .int u.1, .int u.2.1, .int u.2.2.1, .int u.2.2.2.1, .int u.2.2.2.2.1, .int u.2.2.2.2.2.1, .int u.2.2.2.2.2.2.1, .ref c3, .int i7, .int i8, .int i9])), (c0, .inl (dA 0, 4096, .inl (u.2.2.2.2.2.2.2.1))), (c1, .inl (dA 0, 8, .inl (u.2.2.2.2.2.2.2.2.1))), (c2, .inl (dA 0, 4, .inl (u.2.2.2.2.2.2.2.2.2))), (c3, .inl (dA 0, 30, .inl m3)), (o0, .inr (1, [.int oi0, .int oi1, .ref oc2, .int oi3, .ref oc4, .int oi5, .int oi6])), (oc2, .inl (dA 0, 1200, .inl om2)), (oc4, .inl (dA 0, 600, .inl om4))])) A) args s 0 0 A) (F0 m 54 ls []) := by
  intro n
  induction n with
  | zero =>
    intro v54_4 h54_7_f y0 y1 hn
    exact absurd hn (Nat.not_lt_zero _)
  | succ n ih =>
    intro v54_4 h54_7_f y0 y1 hn H locs ls hP hD hS hl
    refine lv_iload hx hb dX4_start_54 (lv_at hl 0 rfl) ?_
    refine lv_aload_n hx hb dX4_start_56 rfl (lv_at hl 3 rfl) ?_
    refine g_get hx hb hg hown hK hP 4 rfl rfl inX1 3 (by decide) q521 rfl dX4_start_57 ?_
    refine lv_icmp_ge (tgt := 94) hx hb dX4_start_60 (by decide) (fun k11 => ?_) (fun k11 => ?_)
    · have g12 : oi3.toInt ≤ v54_4.toInt := gi_le (rfl : oi3.toInt = oi3.toInt) (rfl : v54_4.toInt = v54_4.toInt) k11
      refine lv_aload_n hx hb dX4_start_94 rfl (lv_at hl 2 rfl) ?_
      refine g_get hx hb hg hown hK hP 0 rfl rfl inX4 1 (by decide) q554 rfl dX4_start_95 ?_
      refine lv_iconst (v := 0) hx hb dX4_start_98 (by decide) ?_
      refine g_Sv (n := 2) (As := [.ref c1, .int 0]) (rest := []) (wr := [(t0, .inr (4, [.ref c0, .ref c1, .ref c2, .int i0, .int i1, .int i2, .int i3, .int i4, .int i5, .int i6, .ref c3, .int i7, .int i8, .int i9])), (c2, .inl (dA 0, 4, .inl m2)), (c3, .inl (dA 0, 30, .inl m3)), (o0, .inr (1, [.int oi0, .int oi1, .ref oc2, .int oi3, .ref oc4, .int oi5, .int oi6])), (oc2, .inl (dA 0, 1200, .inl om2)), (oc4, .inl (dA 0, 600, .inl om4)), (c0, .inl (dA 0, 4096, .inl h54_7_f))]) hx hb hml hg hown hK hP hD hS hA (s_fill_8 l D dA c1 (0) m1 _) [1] [0, 2, 3, 4, 5, 6, 7] rfl (by decide) rfl (by decide) (by decide) q1164 q177 q1374 q1163 (by decide +kernel) ⟨(Nat.le_of_ble_eq_true rfl), (Nat.le_of_ble_eq_true rfl)⟩ rfl hl.1 rfl (Nat.le_of_ble_eq_true rfl) dX4_start_99 ⟨(Nat.le_of_ble_eq_true rfl), (Nat.le_of_ble_eq_true rfl)⟩ (fun u13 H locs w15 hP hD hS => ?_)
      refine W.widen (k := 0) (n := 0) (Nat.le_of_ble_eq_true rfl) (Nat.le_of_ble_eq_true rfl) ?_
      obtain ⟨f16, rfl⟩ : ∃ z, z = u13 := ⟨_, rfl⟩
      have hP : va_P D vwC [(t0, .inr (4, [.ref c0, .ref c1, .ref c2, .int i0, .int i1, .int i2, .int i3, .int i4, .int i5, .int i6, .ref c3, .int i7, .int i8, .int i9])), (c2, .inl (dA 0, 4, .inl m2)), (c3, .inl (dA 0, 30, .inl m3)), (o0, .inr (1, [.int oi0, .int oi1, .ref oc2, .int oi3, .ref oc4, .int oi5, .int oi6])), (oc2, .inl (dA 0, 1200, .inl om2)), (oc4, .inl (dA 0, 600, .inl om4)), (c0, .inl (dA 0, 4096, .inl h54_7_f)), (c1, .inl (dA 0, 8, .inl f16))] H := hP
      have hD : va_D A [(t0, .inr (4, [.ref c0, .ref c1, .ref c2, .int i0, .int i1, .int i2, .int i3, .int i4, .int i5, .int i6, .ref c3, .int i7, .int i8, .int i9])), (c2, .inl (dA 0, 4, .inl m2)), (c3, .inl (dA 0, 30, .inl m3)), (o0, .inr (1, [.int oi0, .int oi1, .ref oc2, .int oi3, .ref oc4, .int oi5, .int oi6])), (oc2, .inl (dA 0, 1200, .inl om2)), (oc4, .inl (dA 0, 600, .inl om4)), (c0, .inl (dA 0, 4096, .inl h54_7_f)), (c1, .inl (dA 0, 8, .inl f16))] := hD
      refine lv_aload_n hx hb dX4_start_102 rfl (lv_at hl 2 rfl) ?_
      refine g_get hx hb hg hown hK hP 0 rfl rfl inX4 2 (by decide) q556 rfl dX4_start_103 ?_
      refine lv_iload_n hx hb dX4_start_106 rfl (lv_at hl 4 rfl) ?_
      refine g_Sv (n := 2) (As := [.ref c2, .int a0]) (rest := []) (wr := [(t0, .inr (4, [.ref c0, .ref c1, .ref c2, .int i0, .int i1, .int i2, .int i3, .int i4, .int i5, .int i6, .ref c3, .int i7, .int i8, .int i9])), (c3, .inl (dA 0, 30, .inl m3)), (o0, .inr (1, [.int oi0, .int oi1, .ref oc2, .int oi3, .ref oc4, .int oi5, .int oi6])), (oc2, .inl (dA 0, 1200, .inl om2)), (oc4, .inl (dA 0, 600, .inl om4)), (c0, .inl (dA 0, 4096, .inl h54_7_f)), (c1, .inl (dA 0, 8, .inl f16))]) hx hb hml hg hown hK hP hD hS hA (s_fill_4 l D dA c2 a0 m2 _) [1] [0, 2, 3, 4, 5, 6, 7] rfl (by decide) rfl (by decide) (by decide) q1164 q177 q1374 q1163 (by decide +kernel) ⟨(Nat.le_of_ble_eq_true rfl), (Nat.le_of_ble_eq_true rfl)⟩ rfl hl.1 rfl (Nat.le_of_ble_eq_true rfl) dX4_start_107 ⟨(Nat.le_of_ble_eq_true rfl), (Nat.le_of_ble_eq_true rfl)⟩ (fun u17 H locs w19 hP hD hS => ?_)
      refine W.widen (k := 0) (n := 0) (Nat.le_of_ble_eq_true rfl) (Nat.le_of_ble_eq_true rfl) ?_
      obtain ⟨f20, rfl⟩ : ∃ z, z = u17 := ⟨_, rfl⟩
      have hP : va_P D vwC [(t0, .inr (4, [.ref c0, .ref c1, .ref c2, .int i0, .int i1, .int i2, .int i3, .int i4, .int i5, .int i6, .ref c3, .int i7, .int i8, .int i9])), (c3, .inl (dA 0, 30, .inl m3)), (o0, .inr (1, [.int oi0, .int oi1, .ref oc2, .int oi3, .ref oc4, .int oi5, .int oi6])), (oc2, .inl (dA 0, 1200, .inl om2)), (oc4, .inl (dA 0, 600, .inl om4)), (c0, .inl (dA 0, 4096, .inl h54_7_f)), (c1, .inl (dA 0, 8, .inl f16)), (c2, .inl (dA 0, 4, .inl f20))] H := hP
      have hD : va_D A [(t0, .inr (4, [.ref c0, .ref c1, .ref c2, .int i0, .int i1, .int i2, .int i3, .int i4, .int i5, .int i6, .ref c3, .int i7, .int i8, .int i9])), (c3, .inl (dA 0, 30, .inl m3)), (o0, .inr (1, [.int oi0, .int oi1, .ref oc2, .int oi3, .ref oc4, .int oi5, .int oi6])), (oc2, .inl (dA 0, 1200, .inl om2)), (oc4, .inl (dA 0, 600, .inl om4)), (c0, .inl (dA 0, 4096, .inl h54_7_f)), (c1, .inl (dA 0, 8, .inl f16)), (c2, .inl (dA 0, 4, .inl f20))] := hD
      refine lv_aload_n hx hb dX4_start_110 rfl (lv_at hl 2 rfl) ?_
      refine g_get hx hb hg hown hK hP 0 rfl rfl inX4 2 (by decide) q556 rfl dX4_start_111 ?_
      refine lv_iconst (v := 1) hx hb dX4_start_114 (by decide) ?_
      refine lv_iload_n hx hb dX4_start_115 rfl (lv_at hl 4 rfl) ?_
      refine lv_aload_n hx hb dX4_start_116 rfl (lv_at hl 3 rfl) ?_
      refine g_get hx hb hg hown hK hP 2 rfl rfl inX1 5 (by decide) q526 rfl dX4_start_117 ?_
      refine lv_iadd hx hb dX4_start_120 ?_
      have g21 := g_i32 oi5
      refine lv_topi (fun x22 e23 => ?_)
      refine va_iast hx hb hK hP hD hS 7 0 rfl rfl (by unfold vp_in; decide) dX4_start_121 (fun H locs hP hD hS => ?_)
      have hP : va_P D vwC [(t0, .inr (4, [.ref c0, .ref c1, .ref c2, .int i0, .int i1, .int i2, .int i3, .int i4, .int i5, .int i6, .ref c3, .int i7, .int i8, .int i9])), (c3, .inl (dA 0, 30, .inl m3)), (o0, .inr (1, [.int oi0, .int oi1, .ref oc2, .int oi3, .ref oc4, .int oi5, .int oi6])), (oc2, .inl (dA 0, 1200, .inl om2)), (oc4, .inl (dA 0, 600, .inl om4)), (c0, .inl (dA 0, 4096, .inl h54_7_f)), (c1, .inl (dA 0, 8, .inl f16)), (c2, .inl (dA 0, 4, .inl (upd f20 (1 : Int32).toNatClampNeg x22)))] H := hP
      have hD : va_D A [(t0, .inr (4, [.ref c0, .ref c1, .ref c2, .int i0, .int i1, .int i2, .int i3, .int i4, .int i5, .int i6, .ref c3, .int i7, .int i8, .int i9])), (c3, .inl (dA 0, 30, .inl m3)), (o0, .inr (1, [.int oi0, .int oi1, .ref oc2, .int oi3, .ref oc4, .int oi5, .int oi6])), (oc2, .inl (dA 0, 1200, .inl om2)), (oc4, .inl (dA 0, 600, .inl om4)), (c0, .inl (dA 0, 4096, .inl h54_7_f)), (c1, .inl (dA 0, 8, .inl f16)), (c2, .inl (dA 0, 4, .inl (upd f20 (1 : Int32).toNatClampNeg x22)))] := hD
      obtain ⟨f24, ef24⟩ : ∃ f : Nat → Int32, f = (upd f20 (1 : Int32).toNatClampNeg x22) := ⟨_, rfl⟩
      rw [← ef24] at hP hD
      refine lv_aload_n hx hb dX4_start_122 rfl (lv_at hl 2 rfl) ?_
      refine lv_aload_n hx hb dX4_start_123 rfl (lv_at hl 3 rfl) ?_
      refine g_get hx hb hg hown hK hP 2 rfl rfl inX1 6 (by decide) q529 rfl dX4_start_124 ?_
      refine g_put (w' := [(t0, .inr (4, [.ref c0, .ref c1, .ref c2, .int oi6, .int i1, .int i2, .int i3, .int i4, .int i5, .int i6, .ref c3, .int i7, .int i8, .int i9])), (c3, .inl (dA 0, 30, .inl m3)), (o0, .inr (1, [.int oi0, .int oi1, .ref oc2, .int oi3, .ref oc4, .int oi5, .int oi6])), (oc2, .inl (dA 0, 1200, .inl om2)), (oc4, .inl (dA 0, 600, .inl om4)), (c0, .inl (dA 0, 4096, .inl h54_7_f)), (c1, .inl (dA 0, 8, .inl f16)), (c2, .inl (dA 0, 4, .inl f24))]) hx hb hg hown hK hP hD hS 0 rfl rfl inX4 tyX4_ok nmX4 3 (by decide) q558 rfl rfl rfl (Nat.le_of_ble_eq_true rfl) rfl dX4_start_127 (fun H locs hP hD hS => ?_)
      refine lv_aload_n hx hb dX4_start_130 rfl (lv_at hl 2 rfl) ?_
      refine lv_iconst (v := 0) hx hb dX4_start_131 (by decide) ?_
      refine g_put (w' := [(t0, .inr (4, [.ref c0, .ref c1, .ref c2, .int oi6, .int 0, .int i2, .int i3, .int i4, .int i5, .int i6, .ref c3, .int i7, .int i8, .int i9])), (c3, .inl (dA 0, 30, .inl m3)), (o0, .inr (1, [.int oi0, .int oi1, .ref oc2, .int oi3, .ref oc4, .int oi5, .int oi6])), (oc2, .inl (dA 0, 1200, .inl om2)), (oc4, .inl (dA 0, 600, .inl om4)), (c0, .inl (dA 0, 4096, .inl h54_7_f)), (c1, .inl (dA 0, 8, .inl f16)), (c2, .inl (dA 0, 4, .inl f24))]) hx hb hg hown hK hP hD hS 0 rfl rfl inX4 tyX4_ok nmX4 4 (by decide) q560 rfl rfl rfl (Nat.le_of_ble_eq_true rfl) rfl dX4_start_132 (fun H locs hP hD hS => ?_)
      refine lv_aload_n hx hb dX4_start_135 rfl (lv_at hl 2 rfl) ?_
      refine lv_iconst (v := 0) hx hb dX4_start_136 (by decide) ?_
      refine g_put (w' := [(t0, .inr (4, [.ref c0, .ref c1, .ref c2, .int oi6, .int 0, .int 0, .int i3, .int i4, .int i5, .int i6, .ref c3, .int i7, .int i8, .int i9])), (c3, .inl (dA 0, 30, .inl m3)), (o0, .inr (1, [.int oi0, .int oi1, .ref oc2, .int oi3, .ref oc4, .int oi5, .int oi6])), (oc2, .inl (dA 0, 1200, .inl om2)), (oc4, .inl (dA 0, 600, .inl om4)), (c0, .inl (dA 0, 4096, .inl h54_7_f)), (c1, .inl (dA 0, 8, .inl f16)), (c2, .inl (dA 0, 4, .inl f24))]) hx hb hg hown hK hP hD hS 0 rfl rfl inX4 tyX4_ok nmX4 5 (by decide) q562 rfl rfl rfl (Nat.le_of_ble_eq_true rfl) rfl dX4_start_137 (fun H locs hP hD hS => ?_)
      refine lv_aload_n hx hb dX4_start_140 rfl (lv_at hl 2 rfl) ?_
      refine lv_iconst (v := 0) hx hb dX4_start_141 (by decide) ?_
      refine g_put (w' := [(t0, .inr (4, [.ref c0, .ref c1, .ref c2, .int oi6, .int 0, .int 0, .int 0, .int i4, .int i5, .int i6, .ref c3, .int i7, .int i8, .int i9])), (c3, .inl (dA 0, 30, .inl m3)), (o0, .inr (1, [.int oi0, .int oi1, .ref oc2, .int oi3, .ref oc4, .int oi5, .int oi6])), (oc2, .inl (dA 0, 1200, .inl om2)), (oc4, .inl (dA 0, 600, .inl om4)), (c0, .inl (dA 0, 4096, .inl h54_7_f)), (c1, .inl (dA 0, 8, .inl f16)), (c2, .inl (dA 0, 4, .inl f24))]) hx hb hg hown hK hP hD hS 0 rfl rfl inX4 tyX4_ok nmX4 6 (by decide) q564 rfl rfl rfl (Nat.le_of_ble_eq_true rfl) rfl dX4_start_142 (fun H locs hP hD hS => ?_)
      refine lv_aload_n hx hb dX4_start_145 rfl (lv_at hl 2 rfl) ?_
      refine lv_iconst (v := 0) hx hb dX4_start_146 (by decide) ?_
      refine g_put (w' := [(t0, .inr (4, [.ref c0, .ref c1, .ref c2, .int oi6, .int 0, .int 0, .int 0, .int 0, .int i5, .int i6, .ref c3, .int i7, .int i8, .int i9])), (c3, .inl (dA 0, 30, .inl m3)), (o0, .inr (1, [.int oi0, .int oi1, .ref oc2, .int oi3, .ref oc4, .int oi5, .int oi6])), (oc2, .inl (dA 0, 1200, .inl om2)), (oc4, .inl (dA 0, 600, .inl om4)), (c0, .inl (dA 0, 4096, .inl h54_7_f)), (c1, .inl (dA 0, 8, .inl f16)), (c2, .inl (dA 0, 4, .inl f24))]) hx hb hg hown hK hP hD hS 0 rfl rfl inX4 tyX4_ok nmX4 7 (by decide) q566 rfl rfl rfl (Nat.le_of_ble_eq_true rfl) rfl dX4_start_147 (fun H locs hP hD hS => ?_)
      refine lv_aload_n hx hb dX4_start_150 rfl (lv_at hl 2 rfl) ?_
      refine lv_iconst (v := 0) hx hb dX4_start_151 (by decide) ?_
      refine g_put (w' := [(t0, .inr (4, [.ref c0, .ref c1, .ref c2, .int oi6, .int 0, .int 0, .int 0, .int 0, .int 0, .int i6, .ref c3, .int i7, .int i8, .int i9])), (c3, .inl (dA 0, 30, .inl m3)), (o0, .inr (1, [.int oi0, .int oi1, .ref oc2, .int oi3, .ref oc4, .int oi5, .int oi6])), (oc2, .inl (dA 0, 1200, .inl om2)), (oc4, .inl (dA 0, 600, .inl om4)), (c0, .inl (dA 0, 4096, .inl h54_7_f)), (c1, .inl (dA 0, 8, .inl f16)), (c2, .inl (dA 0, 4, .inl f24))]) hx hb hg hown hK hP hD hS 0 rfl rfl inX4 tyX4_ok nmX4 8 (by decide) q568 rfl rfl rfl (Nat.le_of_ble_eq_true rfl) rfl dX4_start_152 (fun H locs hP hD hS => ?_)
      refine lv_aload_n hx hb dX4_start_155 rfl (lv_at hl 2 rfl) ?_
      refine lv_iconst (v := 0) hx hb dX4_start_156 (by decide) ?_
      refine g_put (w' := [(t0, .inr (4, [.ref c0, .ref c1, .ref c2, .int oi6, .int 0, .int 0, .int 0, .int 0, .int 0, .int 0, .ref c3, .int i7, .int i8, .int i9])), (c3, .inl (dA 0, 30, .inl m3)), (o0, .inr (1, [.int oi0, .int oi1, .ref oc2, .int oi3, .ref oc4, .int oi5, .int oi6])), (oc2, .inl (dA 0, 1200, .inl om2)), (oc4, .inl (dA 0, 600, .inl om4)), (c0, .inl (dA 0, 4096, .inl h54_7_f)), (c1, .inl (dA 0, 8, .inl f16)), (c2, .inl (dA 0, 4, .inl f24))]) hx hb hg hown hK hP hD hS 0 rfl rfl inX4 tyX4_ok nmX4 9 (by decide) q570 rfl rfl rfl (Nat.le_of_ble_eq_true rfl) rfl dX4_start_157 (fun H locs hP hD hS => ?_)
      obtain ⟨hP, hD⟩ := g_cut (is := [0, 5, 6, 7, 1, 2, 3, 4]) (w' := [(t0, .inr (4, [.ref c0, .ref c1, .ref c2, .int oi6, .int 0, .int 0, .int 0, .int 0, .int 0, .int 0, .ref c3, .int i7, .int i8, .int i9])), (c0, .inl (dA 0, 4096, .inl h54_7_f)), (c1, .inl (dA 0, 8, .inl f16)), (c2, .inl (dA 0, 4, .inl f24)), (c3, .inl (dA 0, 30, .inl m3)), (o0, .inr (1, [.int oi0, .int oi1, .ref oc2, .int oi3, .ref oc4, .int oi5, .int oi6])), (oc2, .inl (dA 0, 1200, .inl om2)), (oc4, .inl (dA 0, 600, .inl om4))]) hP hD (by decide) rfl rfl
      exact g_vret hx hb hr hlocks hK (oi6, 0, 0, 0, 0, 0, 0, h54_7_f, f16, f24) hP hD hS ⟨(show 0 ≤ ((0 : Int32)).toInt ∧ ((0 : Int32)).toInt ≤ 1 from by decide), y1⟩ (Nat.le_of_ble_eq_true rfl) (Nat.le_of_ble_eq_true rfl) dX4_start_160
    · have g25 : oi3.toInt > v54_4.toInt := gi_nle (rfl : oi3.toInt = oi3.toInt) (rfl : v54_4.toInt = v54_4.toInt) k11
      refine lv_iload_n hx hb dX4_start_63 rfl (lv_at hl 1 rfl) ?_
      refine lv_aload_n hx hb dX4_start_64 rfl (lv_at hl 3 rfl) ?_
      refine g_get hx hb hg hown hK hP 4 rfl rfl inX1 4 (by decide) q524 rfl dX4_start_65 ?_
      refine lv_iload hx hb dX4_start_68 (lv_at hl 0 rfl) ?_
      refine va_iald hx hb hK hP 6 0 rfl rfl (by rw [vp_in_iff]; omega) dX4_start_70 ?_
      refine lv_topi (fun x26 e27 => ?_)
      refine lv_iadd hx hb dX4_start_71 ?_
      have g28 := g_i32 x26
      refine lv_topi (fun x29 e30 => ?_)
      refine lv_istore (lv' := [(5, .int x29), (4, .int v54_4), (3, .int x6), (0, .ref t0), (1, .ref o0), (2, .int a0)]) hx hb dX4_start_72 hl (by decide) rfl (fun ls hl => ?_)
      refine lv_aload_n hx hb dX4_start_74 rfl (lv_at hl 3 rfl) ?_
      refine lv_iload hx hb dX4_start_75 (lv_at hl 0 rfl) ?_
      refine lv_aload_n hx hb dX4_start_77 rfl (lv_at hl 3 rfl) ?_
      refine lv_iload hx hb dX4_start_78 (lv_at hl 0 rfl) ?_
      refine g_Vi (n := 1) (As := [.int x29]) (rest := [.int x29, .ref t0]) (wr := [(o0, .inr (1, [.int oi0, .int oi1, .ref oc2, .int oi3, .ref oc4, .int oi5, .int oi6])), (oc2, .inl (dA 0, 1200, .inl om2)), (oc4, .inl (dA 0, 600, .inl om4))]) hx hb hml hg hown hK hP hD hS hA (s_X4_word l D dA t0 x29 c0 c1 c2 i0 i1 i2 i3 i4 i5 i6 c3 i7 i8 i9 h54_7_f m1 m2 m3 (by omega) (by omega) (by omega) (by omega) y1 _) [0, 7, 1, 2, 3] [4, 5, 6] rfl (by decide) rfl (by decide) (by decide) 0 rfl rfl q1378 q159 q1375 q1377 q50 (by decide +kernel) ⟨(Nat.le_of_ble_eq_true rfl), (Nat.le_of_ble_eq_true rfl)⟩ rfl hl.1 rfl (Nat.le_of_ble_eq_true rfl) dX4_start_80 ⟨(Nat.le_of_ble_eq_true rfl), (Nat.le_of_ble_eq_true rfl)⟩ (fun x32 u31 H locs w33 hP hD hS => ?_)
      refine W.widen (k := 0) (n := 0) (Nat.le_of_ble_eq_true rfl) (Nat.le_of_ble_eq_true rfl) ?_
      have hP : va_P D vwC [(o0, .inr (1, [.int oi0, .int oi1, .ref oc2, .int oi3, .ref oc4, .int oi5, .int oi6])), (oc2, .inl (dA 0, 1200, .inl om2)), (oc4, .inl (dA 0, 600, .inl om4)), (t0, .inr (4, [.ref c0, .ref c1, .ref c2, .int i0, .int i1, .int i2, .int i3, .int i4, .int i5, .int i6, .ref c3, .int i7, .int i8, .int i9])), (c0, .inl (dA 0, 4096, .inl h54_7_f)), (c1, .inl (dA 0, 8, .inl m1)), (c2, .inl (dA 0, 4, .inl m2)), (c3, .inl (dA 0, 30, .inl m3))] H := hP
      have hD : va_D A [(o0, .inr (1, [.int oi0, .int oi1, .ref oc2, .int oi3, .ref oc4, .int oi5, .int oi6])), (oc2, .inl (dA 0, 1200, .inl om2)), (oc4, .inl (dA 0, 600, .inl om4)), (t0, .inr (4, [.ref c0, .ref c1, .ref c2, .int i0, .int i1, .int i2, .int i3, .int i4, .int i5, .int i6, .ref c3, .int i7, .int i8, .int i9])), (c0, .inl (dA 0, 4096, .inl h54_7_f)), (c1, .inl (dA 0, 8, .inl m1)), (c2, .inl (dA 0, 4, .inl m2)), (c3, .inl (dA 0, 30, .inl m3))] := hD
      refine lv_iload_n hx hb dX4_start_83 rfl (lv_at hl 5 rfl) ?_
      refine lv_iadd hx hb dX4_start_84 ?_
      have g34 := g_i32 x32
      refine lv_topi (fun x35 e36 => ?_)
      refine g_Vv (n := 2) (As := [.int x29, .int x35]) (rest := []) (wr := [(o0, .inr (1, [.int oi0, .int oi1, .ref oc2, .int oi3, .ref oc4, .int oi5, .int oi6])), (oc2, .inl (dA 0, 1200, .inl om2)), (oc4, .inl (dA 0, 600, .inl om4))]) hx hb hml hg hown hK hP hD hS hA (s_X4_putWord l D dA t0 x29 x35 c0 c1 c2 i0 i1 i2 i3 i4 i5 i6 c3 i7 i8 i9 h54_7_f m1 m2 m3 (by omega) (by omega) (by omega) (by omega) y1 _) [3, 4, 5, 6, 7] [0, 1, 2] rfl (by decide) rfl (by decide) (by decide) 0 rfl rfl q1382 q159 q1379 q1381 q51 (by decide +kernel) ⟨(Nat.le_of_ble_eq_true rfl), (Nat.le_of_ble_eq_true rfl)⟩ rfl hl.1 rfl (Nat.le_of_ble_eq_true rfl) dX4_start_85 ⟨(Nat.le_of_ble_eq_true rfl), (Nat.le_of_ble_eq_true rfl)⟩ (fun u37 H locs w39 hP hD hS => ?_)
      refine W.widen (k := 0) (n := 0) (Nat.le_of_ble_eq_true rfl) (Nat.le_of_ble_eq_true rfl) ?_
      obtain ⟨f40, rfl⟩ : ∃ z, z = u37 := ⟨_, rfl⟩
      have hP : va_P D vwC [(o0, .inr (1, [.int oi0, .int oi1, .ref oc2, .int oi3, .ref oc4, .int oi5, .int oi6])), (oc2, .inl (dA 0, 1200, .inl om2)), (oc4, .inl (dA 0, 600, .inl om4)), (t0, .inr (4, [.ref c0, .ref c1, .ref c2, .int i0, .int i1, .int i2, .int i3, .int i4, .int i5, .int i6, .ref c3, .int i7, .int i8, .int i9])), (c0, .inl (dA 0, 4096, .inl f40)), (c1, .inl (dA 0, 8, .inl m1)), (c2, .inl (dA 0, 4, .inl m2)), (c3, .inl (dA 0, 30, .inl m3))] H := hP
      have hD : va_D A [(o0, .inr (1, [.int oi0, .int oi1, .ref oc2, .int oi3, .ref oc4, .int oi5, .int oi6])), (oc2, .inl (dA 0, 1200, .inl om2)), (oc4, .inl (dA 0, 600, .inl om4)), (t0, .inr (4, [.ref c0, .ref c1, .ref c2, .int i0, .int i1, .int i2, .int i3, .int i4, .int i5, .int i6, .ref c3, .int i7, .int i8, .int i9])), (c0, .inl (dA 0, 4096, .inl f40)), (c1, .inl (dA 0, 8, .inl m1)), (c2, .inl (dA 0, 4, .inl m2)), (c3, .inl (dA 0, 30, .inl m3))] := hD
      have g41 := w39
      have g41 : ∀ j : Nat, 0 ≤ (f40 j).toInt ∧ (f40 j).toInt ≤ 255 := g41
      obtain ⟨x42, e43⟩ : ∃ y : Int32, y = v54_4 + 1 := ⟨_, rfl⟩
      have g44 : x42.toInt = v54_4.toInt + 1 := g_add e43 rfl (by decide) (by omega) (by omega)
      refine lv_iinc (v := x42) (lv' := [(4, .int x42), (5, .int x29), (3, .int x6), (0, .ref t0), (1, .ref o0), (2, .int a0)]) hx hb dX4_start_88 hl (k := 1) rfl (by rw [e43]; rfl) (by decide) rfl (fun ls hl => ?_)
      refine lv_goto (tgt := 54) hx hb dX4_start_91 (by decide) ?_
      exact ih x42 f40 (by omega) g41 (by omega) _ _ _ (hP.sub [3, 5, 6, 7, 0, 1, 2, 4] rfl) (hD.sub [3, 5, 6, 7, 0, 1, 2, 4] (by decide) rfl) hS (lv_sub hl [0, 2, 3, 4, 5] rfl)
set_option maxHeartbeats 4000000 in
set_option maxRecDepth 100000 in
theorem s_X4_start_L16 {p : Program} {e : Env} {s : State} {m : MethodId} {args : Array Value} {below : List Frame} {meth : Method} {c : Code} {l : Launch} {D : va_G} {dA : Nat → ClassId} {A : Nat → Prop} (hx : p.tables.exec = Jvm.exec) (hb : c.code = cX4_start) (hr : meth.sig.returnType = none) (hml : c.maxLocals = 6) (hown : s.vm.findClass RX4 = some m.cls) (hg : ∀ w ∈ gw, w.before args s = true) (hlocks : meth.locks = false) (hA : ∀ q : Nat, s.heap.size ≤ q → A q) (hK : gK D dA s) {t0 : Nat} {o0 : Nat} {a0 : Int32} {c0 : Nat} {c1 : Nat} {c2 : Nat} {i0 : Int32} {i1 : Int32} {i2 : Int32} {i3 : Int32} {i4 : Int32} {i5 : Int32} {i6 : Int32} {c3 : Nat} {i7 : Int32} {i8 : Int32} {i9 : Int32} {m1 : Nat → Int32} {m2 : Nat → Int32} {m3 : Nat → Int32} {oi0 : Int32} {oi1 : Int32} {oc2 : Nat} {oi3 : Int32} {oc4 : Nat} {oi5 : Int32} {oi6 : Int32} {om2 : Nat → Int32} {om4 : Nat → Int32} {x6 : Int32} (z0 : 0 ≤ x6.toInt ∧ x6.toInt ≤ 4080) (z1 : 0 ≤ a0.toInt ∧ a0.toInt ≤ 255) (z2 : 0 ≤ i4.toInt ∧ i4.toInt ≤ 1) (z3 : 0 ≤ i6.toInt ∧ i6.toInt ≤ 1000000) (z4 : 0 ≤ i7.toInt ∧ i7.toInt ≤ 7) (z5 : -1 ≤ i8.toInt ∧ i8.toInt ≤ 7) (z6 : 0 ≤ oi0.toInt ∧ oi0.toInt ≤ 1) (z7 : -2147483648 ≤ oi1.toInt ∧ oi1.toInt ≤ 1200) (z8 : 0 ≤ oi3.toInt ∧ oi3.toInt ≤ 600) (z9 : ∀ j : Nat, 0 ≤ (om2 j).toInt ∧ (om2 j).toInt ≤ 255) : ∀ (n : Nat) (v4 : Int32) (h7_f : Nat → Int32) , (0 ≤ v4.toInt ∧ v4.toInt ≤ 1200) → (∀ j : Nat, 0 ≤ (h7_f j).toInt ∧ (h7_f j).toInt ≤ 255) → (oi1.toInt - v4.toInt).toNat < n → ∀ (H : Heap) (locs : List Loc) (ls : Array Slot), va_P D vwC [(t0, .inr (4, [.ref c0, .ref c1, .ref c2, .int i0, .int i1, .int i2, .int i3, .int i4, .int i5, .int i6, .ref c3, .int i7, .int i8, .int i9])), (c1, .inl (dA 0, 8, .inl m1)), (c2, .inl (dA 0, 4, .inl m2)), (c3, .inl (dA 0, 30, .inl m3)), (o0, .inr (1, [.int oi0, .int oi1, .ref oc2, .int oi3, .ref oc4, .int oi5, .int oi6])), (oc2, .inl (dA 0, 1200, .inl om2)), (oc4, .inl (dA 0, 600, .inl om4)), (c0, .inl (dA 0, 4096, .inl h7_f))] H → va_D A [(t0, .inr (4, [.ref c0, .ref c1, .ref c2, .int i0, .int i1, .int i2, .int i3, .int i4, .int i5, .int i6, .ref c3, .int i7, .int i8, .int i9])), (c1, .inl (dA 0, 8, .inl m1)), (c2, .inl (dA 0, 4, .inl m2)), (c3, .inl (dA 0, 30, .inl m3)), (o0, .inr (1, [.int oi0, .int oi1, .ref oc2, .int oi3, .ref oc4, .int oi5, .int oi6])), (oc2, .inl (dA 0, 1200, .inl om2)), (oc4, .inl (dA 0, 600, .inl om4)), (c0, .inl (dA 0, 4096, .inl h7_f))] → va_S A s.heap H locs → lv_has ls 6 [(4, .int v4), (3, .int x6), (0, .ref t0), (1, .ref o0), (2, .int a0)] → W p l e (gR 2 0 0) s m args below meth c H locs 0 0 (MQ below (va_Qv (fun u : Int32 × Int32 × Int32 × Int32 × Int32 × Int32 × Int32 × (Nat → Int32) × (Nat → Int32) × (Nat → Int32) => (0 ≤ u.2.2.2.2.1.toInt ∧ u.2.2.2.2.1.toInt ≤ 1) ∧ (∀ j : Nat, 0 ≤ (u.2.2.2.2.2.2.2.1 j).toInt ∧ (u.2.2.2.2.2.2.2.1 j).toInt ≤ 255)) (gAt D dA A (fun u : Int32 × Int32 × Int32 × Int32 × Int32 × Int32 × Int32 × (Nat → Int32) × (Nat → Int32) × (Nat → Int32) => [(t0, .inr (4, [.ref c0, .ref c1, .ref c2, .int u.1, .int u.2.1, .int u.2.2.1, .int u.2.2.2.1, .int u.2.2.2.2.1, .int u.2.2.2.2.2.1, .int u.2.2.2.2.2.2.1, .ref c3, .int i7, .int i8, .int i9])), (c0, .inl (dA 0, 4096, .inl (u.2.2.2.2.2.2.2.1))), (c1, .inl (dA 0, 8, .inl (u.2.2.2.2.2.2.2.2.1))), (c2, .inl (dA 0, 4, .inl (u.2.2.2.2.2.2.2.2.2))), (c3, .inl (dA 0, 30, .inl m3)), (o0, .inr (1, [.int oi0, .int oi1, .ref oc2, .int oi3, .ref oc4, .int oi5, .int oi6])), (oc2, .inl (dA 0, 1200, .inl om2)), (oc4, .inl (dA 0, 600, .inl om4))])) A) args s 0 0 A) (F0 m 16 ls []) := by
  intro n
  induction n with
  | zero =>
    intro v4 h7_f y0 y1 hn
    exact absurd hn (Nat.not_lt_zero _)
  | succ n ih =>
    intro v4 h7_f y0 y1 hn H locs ls hP hD hS hl
    refine lv_iload hx hb dX4_start_16 (lv_at hl 0 rfl) ?_
    refine lv_aload_n hx hb dX4_start_18 rfl (lv_at hl 3 rfl) ?_
    refine g_get hx hb hg hown hK hP 4 rfl rfl inX1 1 (by decide) q514 rfl dX4_start_19 ?_
    refine lv_icmp_ge (tgt := 51) hx hb dX4_start_22 (by decide) (fun k9 => ?_) (fun k9 => ?_)
    · have g10 : oi1.toInt ≤ v4.toInt := gi_le (rfl : oi1.toInt = oi1.toInt) (rfl : v4.toInt = v4.toInt) k9
      refine lv_iconst (v := 0) hx hb dX4_start_51 (by decide) ?_
      refine lv_istore (lv' := [(4, .int 0), (3, .int x6), (0, .ref t0), (1, .ref o0), (2, .int a0)]) hx hb dX4_start_52 hl (by decide) rfl (fun ls hl => ?_)
      exact s_X4_start_L54 hx hb hr hml hown hg hlocks hA hK (by have q_0 : (0 : Int32).toInt = 0 := (by decide); omega) (by have q_0 : (0 : Int32).toInt = 0 := (by decide); omega) (by have q_0 : (0 : Int32).toInt = 0 := (by decide); omega) (by have q_0 : (0 : Int32).toInt = 0 := (by decide); omega) (by have q_0 : (0 : Int32).toInt = 0 := (by decide); omega) (by have q_0 : (0 : Int32).toInt = 0 := (by decide); omega) (by have q_0 : (0 : Int32).toInt = 0 := (by decide); omega) (by have q_0 : (0 : Int32).toInt = 0 := (by decide); omega) (by have q_0 : (0 : Int32).toInt = 0 := (by decide); omega) z9 _ 0 h7_f (by have q_0 : (0 : Int32).toInt = 0 := (by decide); omega) y1 (Nat.lt_succ_self _) _ _ _ (hP.sub [0, 1, 2, 3, 4, 5, 6, 7] rfl) (hD.sub [0, 1, 2, 3, 4, 5, 6, 7] (by decide) rfl) hS (lv_sub hl [0, 1, 2, 3, 4] rfl)
    · have g45 : oi1.toInt > v4.toInt := gi_nle (rfl : oi1.toInt = oi1.toInt) (rfl : v4.toInt = v4.toInt) k9
      refine lv_aload_n hx hb dX4_start_25 rfl (lv_at hl 2 rfl) ?_
      refine g_get hx hb hg hown hK hP 0 rfl rfl inX4 0 (by decide) q552 rfl dX4_start_26 ?_
      refine lv_iload_n hx hb dX4_start_29 rfl (lv_at hl 1 rfl) ?_
      refine lv_iload hx hb dX4_start_30 (lv_at hl 0 rfl) ?_
      refine lv_iadd hx hb dX4_start_32 ?_
      refine lv_topi (fun x46 e47 => ?_)
      have g48 : x46.toInt = x6.toInt + v4.toInt := g_add e47 rfl rfl (by omega) (by omega)
      refine lv_sipush (v := 4095) hx hb dX4_start_33 (by decide) ?_
      refine lv_iand hx hb dX4_start_36 ?_
      refine lv_topi (fun x49 e50 => ?_)
      have g51 : 0 ≤ x49.toInt ∧ x49.toInt ≤ 4095 := g_msk e50 12 (by decide) (by decide) (by decide)
      refine lv_aload_n hx hb dX4_start_37 rfl (lv_at hl 3 rfl) ?_
      refine g_get hx hb hg hown hK hP 4 rfl rfl inX1 2 (by decide) q517 rfl dX4_start_38 ?_
      refine lv_iload hx hb dX4_start_41 (lv_at hl 0 rfl) ?_
      refine va_iald hx hb hK hP 5 0 rfl rfl (by rw [vp_in_iff]; omega) dX4_start_43 ?_
      refine lv_topi (fun x52 e53 => ?_)
      have g54 : 0 ≤ x52.toInt ∧ x52.toInt ≤ 255 := by rw [e53]; exact z9 _
      refine va_iast hx hb hK hP hD hS 7 0 rfl rfl (by rw [vp_in_iff]; omega) dX4_start_44 (fun H locs hP hD hS => ?_)
      have hP : va_P D vwC [(t0, .inr (4, [.ref c0, .ref c1, .ref c2, .int i0, .int i1, .int i2, .int i3, .int i4, .int i5, .int i6, .ref c3, .int i7, .int i8, .int i9])), (c1, .inl (dA 0, 8, .inl m1)), (c2, .inl (dA 0, 4, .inl m2)), (c3, .inl (dA 0, 30, .inl m3)), (o0, .inr (1, [.int oi0, .int oi1, .ref oc2, .int oi3, .ref oc4, .int oi5, .int oi6])), (oc2, .inl (dA 0, 1200, .inl om2)), (oc4, .inl (dA 0, 600, .inl om4)), (c0, .inl (dA 0, 4096, .inl (upd h7_f (x49 : Int32).toNatClampNeg x52)))] H := hP
      have hD : va_D A [(t0, .inr (4, [.ref c0, .ref c1, .ref c2, .int i0, .int i1, .int i2, .int i3, .int i4, .int i5, .int i6, .ref c3, .int i7, .int i8, .int i9])), (c1, .inl (dA 0, 8, .inl m1)), (c2, .inl (dA 0, 4, .inl m2)), (c3, .inl (dA 0, 30, .inl m3)), (o0, .inr (1, [.int oi0, .int oi1, .ref oc2, .int oi3, .ref oc4, .int oi5, .int oi6])), (oc2, .inl (dA 0, 1200, .inl om2)), (oc4, .inl (dA 0, 600, .inl om4)), (c0, .inl (dA 0, 4096, .inl (upd h7_f (x49 : Int32).toNatClampNeg x52)))] := hD
      obtain ⟨f55, ef55⟩ : ∃ f : Nat → Int32, f = (upd h7_f (x49 : Int32).toNatClampNeg x52) := ⟨_, rfl⟩
      rw [← ef55] at hP hD
      have hf55 : ∀ j : Nat, 0 ≤ (f55 j).toInt ∧ (f55 j).toInt ≤ 255 := by rw [ef55]; exact g_updB y1 (by omega) (by omega)
      obtain ⟨x56, e57⟩ : ∃ y : Int32, y = v4 + 1 := ⟨_, rfl⟩
      have g58 : x56.toInt = v4.toInt + 1 := g_add e57 rfl (by decide) (by omega) (by omega)
      refine lv_iinc (v := x56) (lv' := [(4, .int x56), (3, .int x6), (0, .ref t0), (1, .ref o0), (2, .int a0)]) hx hb dX4_start_45 hl (k := 0) rfl (by rw [e57]; rfl) (by decide) rfl (fun ls hl => ?_)
      refine lv_goto (tgt := 16) hx hb dX4_start_48 (by decide) ?_
      exact ih x56 f55 (by omega) hf55 (by omega) _ _ _ (hP.sub [0, 1, 2, 3, 4, 5, 6, 7] rfl) (hD.sub [0, 1, 2, 3, 4, 5, 6, 7] (by decide) rfl) hS (lv_sub hl [0, 1, 2, 3, 4] rfl)
set_option maxHeartbeats 4000000 in
set_option maxRecDepth 100000 in
theorem s_X4_start (l : Launch) (D : va_G) (dA : Nat → ClassId) (t0 : Nat) (o0 : Nat) (a0 : Int32) (c0 : Nat) (c1 : Nat) (c2 : Nat) (i0 : Int32) (i1 : Int32) (i2 : Int32) (i3 : Int32) (i4 : Int32) (i5 : Int32) (i6 : Int32) (c3 : Nat) (i7 : Int32) (i8 : Int32) (i9 : Int32) (m0 : Nat → Int32) (m1 : Nat → Int32) (m2 : Nat → Int32) (m3 : Nat → Int32) (oi0 : Int32) (oi1 : Int32) (oc2 : Nat) (oi3 : Int32) (oc4 : Nat) (oi5 : Int32) (oi6 : Int32) (om2 : Nat → Int32) (om4 : Nat → Int32) (p0 : 0 ≤ a0.toInt ∧ a0.toInt ≤ 255) (p1 : 0 ≤ i4.toInt ∧ i4.toInt ≤ 1) (p2 : 0 ≤ i6.toInt ∧ i6.toInt ≤ 1000000) (p3 : 0 ≤ i7.toInt ∧ i7.toInt ≤ 7) (p4 : -1 ≤ i8.toInt ∧ i8.toInt ≤ 7) (p5 : ∀ j : Nat, 0 ≤ (m0 j).toInt ∧ (m0 j).toInt ≤ 255) (p6 : 0 ≤ oi0.toInt ∧ oi0.toInt ≤ 1) (p7 : -2147483648 ≤ oi1.toInt ∧ oi1.toInt ≤ 1200) (p8 : 0 ≤ oi3.toInt ∧ oi3.toInt ≤ 600) (p9 : ∀ j : Nat, 0 ≤ (om2 j).toInt ∧ (om2 j).toInt ≤ 255) (sz : Nat) : Met l yX4_start (gws yX4_start cX4_start 6 none) (gR 2 0 0) (gPre D dA [.ref t0, .ref o0, .int a0] [(t0, .inr (4, [.ref c0, .ref c1, .ref c2, .int i0, .int i1, .int i2, .int i3, .int i4, .int i5, .int i6, .ref c3, .int i7, .int i8, .int i9])), (c0, .inl (dA 0, 4096, .inl m0)), (c1, .inl (dA 0, 8, .inl m1)), (c2, .inl (dA 0, 4, .inl m2)), (c3, .inl (dA 0, 30, .inl m3)), (o0, .inr (1, [.int oi0, .int oi1, .ref oc2, .int oi3, .ref oc4, .int oi5, .int oi6])), (oc2, .inl (dA 0, 1200, .inl om2)), (oc4, .inl (dA 0, 600, .inl om4))] sz) (va_Qv (fun u : Int32 × Int32 × Int32 × Int32 × Int32 × Int32 × Int32 × (Nat → Int32) × (Nat → Int32) × (Nat → Int32) => (0 ≤ u.2.2.2.2.1.toInt ∧ u.2.2.2.2.1.toInt ≤ 1) ∧ (∀ j : Nat, 0 ≤ (u.2.2.2.2.2.2.2.1 j).toInt ∧ (u.2.2.2.2.2.2.2.1 j).toInt ≤ 255)) (gAt D dA (va_A [(t0, .inr (4, [.ref c0, .ref c1, .ref c2, .int i0, .int i1, .int i2, .int i3, .int i4, .int i5, .int i6, .ref c3, .int i7, .int i8, .int i9])), (c0, .inl (dA 0, 4096, .inl m0)), (c1, .inl (dA 0, 8, .inl m1)), (c2, .inl (dA 0, 4, .inl m2)), (c3, .inl (dA 0, 30, .inl m3)), (o0, .inr (1, [.int oi0, .int oi1, .ref oc2, .int oi3, .ref oc4, .int oi5, .int oi6])), (oc2, .inl (dA 0, 1200, .inl om2)), (oc4, .inl (dA 0, 600, .inl om4))] sz) (fun u : Int32 × Int32 × Int32 × Int32 × Int32 × Int32 × Int32 × (Nat → Int32) × (Nat → Int32) × (Nat → Int32) => [(t0, .inr (4, [.ref c0, .ref c1, .ref c2, .int u.1, .int u.2.1, .int u.2.2.1, .int u.2.2.2.1, .int u.2.2.2.2.1, .int u.2.2.2.2.2.1, .int u.2.2.2.2.2.2.1, .ref c3, .int i7, .int i8, .int i9])), (c0, .inl (dA 0, 4096, .inl (u.2.2.2.2.2.2.2.1))), (c1, .inl (dA 0, 8, .inl (u.2.2.2.2.2.2.2.2.1))), (c2, .inl (dA 0, 4, .inl (u.2.2.2.2.2.2.2.2.2))), (c3, .inl (dA 0, 30, .inl m3)), (o0, .inr (1, [.int oi0, .int oi1, .ref oc2, .int oi3, .ref oc4, .int oi5, .int oi6])), (oc2, .inl (dA 0, 1200, .inl om2)), (oc4, .inl (dA 0, 600, .inl om4))])) (va_A [(t0, .inr (4, [.ref c0, .ref c1, .ref c2, .int i0, .int i1, .int i2, .int i3, .int i4, .int i5, .int i6, .ref c3, .int i7, .int i8, .int i9])), (c0, .inl (dA 0, 4096, .inl m0)), (c1, .inl (dA 0, 8, .inl m1)), (c2, .inl (dA 0, 4, .inl m2)), (c3, .inl (dA 0, 30, .inl m3)), (o0, .inr (1, [.int oi0, .int oi1, .ref oc2, .int oi3, .ref oc4, .int oi5, .int oi6])), (oc2, .inl (dA 0, 1200, .inl om2)), (oc4, .inl (dA 0, 600, .inl om4))] sz)) 0 0 (va_A [(t0, .inr (4, [.ref c0, .ref c1, .ref c2, .int i0, .int i1, .int i2, .int i3, .int i4, .int i5, .int i6, .ref c3, .int i7, .int i8, .int i9])), (c0, .inl (dA 0, 4096, .inl m0)), (c1, .inl (dA 0, 8, .inl m1)), (c2, .inl (dA 0, 4, .inl m2)), (c3, .inl (dA 0, 30, .inl m3)), (o0, .inr (1, [.int oi0, .int oi1, .ref oc2, .int oi3, .ref oc4, .int oi5, .int oi6])), (oc2, .inl (dA 0, 1200, .inl om2)), (oc4, .inl (dA 0, 600, .inl om4))] sz) := by
  refine Met.ofW (cc := cX4_start) (maxL := 6) (ret := none) (by decide) rfl ?_
  intro p e s m args below meth c s₁ B hml hv
  obtain ⟨rfl, hsz, hP, hK, hD0⟩ := hv
  have hx := B.exec
  have hb := B.bytes
  have hr := B.returns
  have hts := atoms_spec (ws := gws yX4_start cX4_start 6 none) B.pre
  have hg : ∀ w ∈ gw, w.before _ s = true := fun w h => hts w (List.mem_cons_of_mem _ h)
  have hown : s.vm.findClass RX4 = some m.cls := findClass_of_methodNamed B.named
  have hlocks := B.notSynchronized
  subst hsz
  have hD := hD0.self (sz := s.heap.size)
  generalize hAe : va_A [(t0, .inr (4, [.ref c0, .ref c1, .ref c2, .int i0, .int i1, .int i2, .int i3, .int i4, .int i5, .int i6, .ref c3, .int i7, .int i8, .int i9])), (c0, .inl (dA 0, 4096, .inl m0)), (c1, .inl (dA 0, 8, .inl m1)), (c2, .inl (dA 0, 4, .inl m2)), (c3, .inl (dA 0, 30, .inl m3)), (o0, .inr (1, [.int oi0, .int oi1, .ref oc2, .int oi3, .ref oc4, .int oi5, .int oi6])), (oc2, .inl (dA 0, 1200, .inl om2)), (oc4, .inl (dA 0, 600, .inl om4))] s.heap.size = A at hD ⊢
  have hA : ∀ q : Nat, s.heap.size ≤ q → A q := fun q h => by rw [← hAe]; exact Or.inr h
  have hS : va_S A s.heap s.heap [] := va_S.rf
  have hP : va_P D vwC [(t0, .inr (4, [.ref c0, .ref c1, .ref c2, .int i0, .int i1, .int i2, .int i3, .int i4, .int i5, .int i6, .ref c3, .int i7, .int i8, .int i9])), (c0, .inl (dA 0, 4096, .inl m0)), (c1, .inl (dA 0, 8, .inl m1)), (c2, .inl (dA 0, 4, .inl m2)), (c3, .inl (dA 0, 30, .inl m3)), (o0, .inr (1, [.int oi0, .int oi1, .ref oc2, .int oi3, .ref oc4, .int oi5, .int oi6])), (oc2, .inl (dA 0, 1200, .inl om2)), (oc4, .inl (dA 0, 600, .inl om4))] s.heap := hP
  have hl := lv_entry ([.ref t0, .ref o0, .int a0]) (n := 6) (Nat.le_of_ble_eq_true rfl)
  rw [lg_entry_eq]
  generalize (lg_sl ([.ref t0, .ref o0, .int a0]) ++ List.replicate (6 - (lg_sl ([.ref t0, .ref o0, .int a0])).length) Slot.unset).toArray = ls at hl ⊢
  have hl : lv_has ls 6 [(0, .ref t0), (1, .ref o0), (2, .int a0)] := hl
  refine lv_aload_n hx hb dX4_start_0 rfl (lv_at hl 0 rfl) ?_
  refine g_get hx hb hg hown hK hP 0 rfl rfl inX4 0 (by decide) q552 rfl dX4_start_1 ?_
  refine lv_iconst (v := 0) hx hb dX4_start_4 (by decide) ?_
  refine g_Sv (n := 2) (As := [.ref c0, .int 0]) (rest := []) (wr := [(t0, .inr (4, [.ref c0, .ref c1, .ref c2, .int i0, .int i1, .int i2, .int i3, .int i4, .int i5, .int i6, .ref c3, .int i7, .int i8, .int i9])), (c1, .inl (dA 0, 8, .inl m1)), (c2, .inl (dA 0, 4, .inl m2)), (c3, .inl (dA 0, 30, .inl m3)), (o0, .inr (1, [.int oi0, .int oi1, .ref oc2, .int oi3, .ref oc4, .int oi5, .int oi6])), (oc2, .inl (dA 0, 1200, .inl om2)), (oc4, .inl (dA 0, 600, .inl om4))]) hx hb hml hg hown hK hP hD hS hA (s_fill_4096 l D dA c0 (0) m0 (by decide) p5 _) [1] [0, 2, 3, 4, 5, 6, 7] rfl (by decide) rfl (by decide) (by decide) q1164 q177 q1374 q1163 (by decide +kernel) ⟨(Nat.le_of_ble_eq_true rfl), (Nat.le_of_ble_eq_true rfl)⟩ rfl hl.1 rfl (Nat.le_of_ble_eq_true rfl) dX4_start_5 ⟨(Nat.le_of_ble_eq_true rfl), (Nat.le_of_ble_eq_true rfl)⟩ (fun u1 H locs w3 hP hD hS => ?_)
  refine W.widen (k := 0) (n := 0) (Nat.le_of_ble_eq_true rfl) (Nat.le_of_ble_eq_true rfl) ?_
  obtain ⟨f4, rfl⟩ : ∃ z, z = u1 := ⟨_, rfl⟩
  have hP : va_P D vwC [(t0, .inr (4, [.ref c0, .ref c1, .ref c2, .int i0, .int i1, .int i2, .int i3, .int i4, .int i5, .int i6, .ref c3, .int i7, .int i8, .int i9])), (c1, .inl (dA 0, 8, .inl m1)), (c2, .inl (dA 0, 4, .inl m2)), (c3, .inl (dA 0, 30, .inl m3)), (o0, .inr (1, [.int oi0, .int oi1, .ref oc2, .int oi3, .ref oc4, .int oi5, .int oi6])), (oc2, .inl (dA 0, 1200, .inl om2)), (oc4, .inl (dA 0, 600, .inl om4)), (c0, .inl (dA 0, 4096, .inl f4))] H := hP
  have hD : va_D A [(t0, .inr (4, [.ref c0, .ref c1, .ref c2, .int i0, .int i1, .int i2, .int i3, .int i4, .int i5, .int i6, .ref c3, .int i7, .int i8, .int i9])), (c1, .inl (dA 0, 8, .inl m1)), (c2, .inl (dA 0, 4, .inl m2)), (c3, .inl (dA 0, 30, .inl m3)), (o0, .inr (1, [.int oi0, .int oi1, .ref oc2, .int oi3, .ref oc4, .int oi5, .int oi6])), (oc2, .inl (dA 0, 1200, .inl om2)), (oc4, .inl (dA 0, 600, .inl om4)), (c0, .inl (dA 0, 4096, .inl f4))] := hD
  have g5 := w3
  have g5 : ∀ j : Nat, 0 ≤ (f4 j).toInt ∧ (f4 j).toInt ≤ 255 := g5
  refine lv_bipush (v := 16) hx hb dX4_start_8 (by decide) ?_
  refine lv_iload_n hx hb dX4_start_10 rfl (lv_at hl 2 rfl) ?_
  refine lv_imul hx hb dX4_start_11 ?_
  refine lv_topi (fun x6 e7 => ?_)
  have g8 : x6.toInt = 16 * a0.toInt := g_mul e7 (by decide) rfl (by omega) (by omega)
  refine lv_istore_n (lv' := [(3, .int x6), (0, .ref t0), (1, .ref o0), (2, .int a0)]) hx hb dX4_start_12 rfl hl (by decide) rfl (fun ls hl => ?_)
  refine lv_iconst (v := 0) hx hb dX4_start_13 (by decide) ?_
  refine lv_istore (lv' := [(4, .int 0), (3, .int x6), (0, .ref t0), (1, .ref o0), (2, .int a0)]) hx hb dX4_start_14 hl (by decide) rfl (fun ls hl => ?_)
  exact s_X4_start_L16 hx hb hr hml hown hg hlocks hA hK (by have q_0 : (0 : Int32).toInt = 0 := (by decide); omega) (by have q_0 : (0 : Int32).toInt = 0 := (by decide); omega) (by have q_0 : (0 : Int32).toInt = 0 := (by decide); omega) (by have q_0 : (0 : Int32).toInt = 0 := (by decide); omega) (by have q_0 : (0 : Int32).toInt = 0 := (by decide); omega) (by have q_0 : (0 : Int32).toInt = 0 := (by decide); omega) (by have q_0 : (0 : Int32).toInt = 0 := (by decide); omega) (by have q_0 : (0 : Int32).toInt = 0 := (by decide); omega) (by have q_0 : (0 : Int32).toInt = 0 := (by decide); omega) p9 _ 0 f4 (by have q_0 : (0 : Int32).toInt = 0 := (by decide); omega) g5 (Nat.lt_succ_self _) _ _ _ (hP.sub [0, 1, 2, 3, 4, 5, 6, 7] rfl) (hD.sub [0, 1, 2, 3, 4, 5, 6, 7] (by decide) rfl) hS (lv_sub hl [0, 1, 2, 3, 4] rfl)
