theorem q156 : Cond.initialized RX6 ∈ gw := gw_in (i := 156) (by decide +kernel) rfl
theorem q404 : Cond.fieldLink RX6 19 "SegmentBench$ObjectModule" "segmentName" "[J" ∈ gw := gw_in (i := 404) (by decide +kernel) rfl
theorem q406 : Cond.fieldLink RX6 23 "SegmentBench$ObjectModule" "segmentAlign" "[I" ∈ gw := gw_in (i := 406) (by decide +kernel) rfl
theorem q408 : Cond.fieldLink RX6 27 "SegmentBench$ObjectModule" "segmentSize" "[I" ∈ gw := gw_in (i := 408) (by decide +kernel) rfl
theorem q411 : Cond.fieldLink RX6 30 "SegmentBench$ObjectModule" "segmentStart" "[I" ∈ gw := gw_in (i := 411) (by decide +kernel) rfl
theorem q438 : Cond.fieldLink RX6 60 "SegmentBench$ObjectModule" "publicSegment" "[I" ∈ gw := gw_in (i := 438) (by decide +kernel) rfl
theorem q440 : Cond.fieldLink RX6 63 "SegmentBench$ObjectModule" "publicOffset" "[I" ∈ gw := gw_in (i := 440) (by decide +kernel) rfl
theorem q1207 : Cond.methodLink RX6 72 yX6_publicNumber ∈ gw := gw_in (i := 1207) (by decide +kernel) rfl
theorem q1208 : Cond.instanceMethod yX6_publicNumber ∈ gw := gw_in (i := 1208) (by decide +kernel) rfl
theorem q1209 : Cond.selects RX6 yX6_publicNumber yX6_publicNumber ∈ gw := gw_in (i := 1209) (by decide +kernel) rfl
theorem q1210 : Cond.code yX6_publicNumber cX6_publicNumber 4 (some .int) ∈ gw := gw_in (i := 1210) (by decide +kernel) rfl
theorem dX6_addSegment_0 : decode cX6_addSegment 0 = .ok (.aload_n 0, 1) := by decide +kernel
theorem dX6_addSegment_1 : decode cX6_addSegment 1 = .ok (.getfield 15, 3) := by decide +kernel
theorem dX6_addSegment_4 : decode cX6_addSegment 4 = .ok (.bipush 24, 2) := by decide +kernel
theorem dX6_addSegment_6 : decode cX6_addSegment 6 = .ok (.if_icmp .ge 90, 3) := by decide +kernel
theorem dX6_addSegment_96 : decode cX6_addSegment 96 = .ok (.return_, 1) := by decide +kernel
theorem dX6_addSegment_9 : decode cX6_addSegment 9 = .ok (.iconst 0, 1) := by decide +kernel
theorem dX6_addSegment_10 : decode cX6_addSegment 10 = .ok (.istore 5, 2) := by decide +kernel
theorem dX6_addSegment_12 : decode cX6_addSegment 12 = .ok (.aload_n 0, 1) := by decide +kernel
theorem dX6_addSegment_13 : decode cX6_addSegment 13 = .ok (.getfield 15, 3) := by decide +kernel
theorem dX6_addSegment_16 : decode cX6_addSegment 16 = .ok (.ifCond .le 28, 3) := by decide +kernel
theorem dX6_addSegment_44 : decode cX6_addSegment 44 = .ok (.aload_n 0, 1) := by decide +kernel
theorem dX6_addSegment_45 : decode cX6_addSegment 45 = .ok (.getfield 19, 3) := by decide +kernel
theorem dX6_addSegment_48 : decode cX6_addSegment 48 = .ok (.aload_n 0, 1) := by decide +kernel
theorem dX6_addSegment_49 : decode cX6_addSegment 49 = .ok (.getfield 15, 3) := by decide +kernel
theorem dX6_addSegment_52 : decode cX6_addSegment 52 = .ok (.lload_n 1, 1) := by decide +kernel
theorem dX6_addSegment_53 : decode cX6_addSegment 53 = .ok (.lastore, 1) := by decide +kernel
theorem dX6_addSegment_54 : decode cX6_addSegment 54 = .ok (.aload_n 0, 1) := by decide +kernel
theorem dX6_addSegment_55 : decode cX6_addSegment 55 = .ok (.getfield 23, 3) := by decide +kernel
theorem dX6_addSegment_58 : decode cX6_addSegment 58 = .ok (.aload_n 0, 1) := by decide +kernel
theorem dX6_addSegment_59 : decode cX6_addSegment 59 = .ok (.getfield 15, 3) := by decide +kernel
theorem dX6_addSegment_62 : decode cX6_addSegment 62 = .ok (.iload_n 3, 1) := by decide +kernel
theorem dX6_addSegment_63 : decode cX6_addSegment 63 = .ok (.iastore, 1) := by decide +kernel
theorem dX6_addSegment_64 : decode cX6_addSegment 64 = .ok (.aload_n 0, 1) := by decide +kernel
theorem dX6_addSegment_65 : decode cX6_addSegment 65 = .ok (.getfield 27, 3) := by decide +kernel
theorem dX6_addSegment_68 : decode cX6_addSegment 68 = .ok (.aload_n 0, 1) := by decide +kernel
theorem dX6_addSegment_69 : decode cX6_addSegment 69 = .ok (.getfield 15, 3) := by decide +kernel
theorem dX6_addSegment_72 : decode cX6_addSegment 72 = .ok (.iload 4, 2) := by decide +kernel
theorem dX6_addSegment_74 : decode cX6_addSegment 74 = .ok (.iastore, 1) := by decide +kernel
theorem dX6_addSegment_75 : decode cX6_addSegment 75 = .ok (.aload_n 0, 1) := by decide +kernel
theorem dX6_addSegment_76 : decode cX6_addSegment 76 = .ok (.getfield 30, 3) := by decide +kernel
theorem dX6_addSegment_79 : decode cX6_addSegment 79 = .ok (.aload_n 0, 1) := by decide +kernel
theorem dX6_addSegment_80 : decode cX6_addSegment 80 = .ok (.getfield 15, 3) := by decide +kernel
theorem dX6_addSegment_83 : decode cX6_addSegment 83 = .ok (.iload 5, 2) := by decide +kernel
theorem dX6_addSegment_85 : decode cX6_addSegment 85 = .ok (.iastore, 1) := by decide +kernel
theorem dX6_addSegment_86 : decode cX6_addSegment 86 = .ok (.aload_n 0, 1) := by decide +kernel
theorem dX6_addSegment_87 : decode cX6_addSegment 87 = .ok (.dup, 1) := by decide +kernel
theorem dX6_addSegment_88 : decode cX6_addSegment 88 = .ok (.getfield 15, 3) := by decide +kernel
theorem dX6_addSegment_91 : decode cX6_addSegment 91 = .ok (.iconst 1, 1) := by decide +kernel
theorem dX6_addSegment_92 : decode cX6_addSegment 92 = .ok (.iadd, 1) := by decide +kernel
theorem dX6_addSegment_93 : decode cX6_addSegment 93 = .ok (.putfield 15, 3) := by decide +kernel
theorem dX6_addSegment_19 : decode cX6_addSegment 19 = .ok (.aload_n 0, 1) := by decide +kernel
theorem dX6_addSegment_20 : decode cX6_addSegment 20 = .ok (.getfield 30, 3) := by decide +kernel
theorem dX6_addSegment_23 : decode cX6_addSegment 23 = .ok (.aload_n 0, 1) := by decide +kernel
theorem dX6_addSegment_24 : decode cX6_addSegment 24 = .ok (.getfield 15, 3) := by decide +kernel
theorem dX6_addSegment_27 : decode cX6_addSegment 27 = .ok (.iconst 1, 1) := by decide +kernel
theorem dX6_addSegment_28 : decode cX6_addSegment 28 = .ok (.isub, 1) := by decide +kernel
theorem dX6_addSegment_29 : decode cX6_addSegment 29 = .ok (.iaload, 1) := by decide +kernel
theorem dX6_addSegment_30 : decode cX6_addSegment 30 = .ok (.aload_n 0, 1) := by decide +kernel
theorem dX6_addSegment_31 : decode cX6_addSegment 31 = .ok (.getfield 27, 3) := by decide +kernel
theorem dX6_addSegment_34 : decode cX6_addSegment 34 = .ok (.aload_n 0, 1) := by decide +kernel
theorem dX6_addSegment_35 : decode cX6_addSegment 35 = .ok (.getfield 15, 3) := by decide +kernel
theorem dX6_addSegment_38 : decode cX6_addSegment 38 = .ok (.iconst 1, 1) := by decide +kernel
theorem dX6_addSegment_39 : decode cX6_addSegment 39 = .ok (.isub, 1) := by decide +kernel
theorem dX6_addSegment_40 : decode cX6_addSegment 40 = .ok (.iaload, 1) := by decide +kernel
theorem dX6_addSegment_41 : decode cX6_addSegment 41 = .ok (.iadd, 1) := by decide +kernel
theorem dX6_addSegment_42 : decode cX6_addSegment 42 = .ok (.istore 5, 2) := by decide +kernel
theorem dX6_addPublic_0 : decode cX6_addPublic 0 = .ok (.aload_n 0, 1) := by decide +kernel
theorem dX6_addPublic_1 : decode cX6_addPublic 1 = .ok (.lload_n 1, 1) := by decide +kernel
theorem dX6_addPublic_2 : decode cX6_addPublic 2 = .ok (.invokevirtual 72, 3) := by decide +kernel
theorem dX6_addPublic_5 : decode cX6_addPublic 5 = .ok (.ifCond .ge 53, 3) := by decide +kernel
theorem dX6_addPublic_58 : decode cX6_addPublic 58 = .ok (.return_, 1) := by decide +kernel
theorem dX6_addPublic_8 : decode cX6_addPublic 8 = .ok (.aload_n 0, 1) := by decide +kernel
theorem dX6_addPublic_9 : decode cX6_addPublic 9 = .ok (.getfield 54, 3) := by decide +kernel
theorem dX6_addPublic_12 : decode cX6_addPublic 12 = .ok (.bipush 24, 2) := by decide +kernel
theorem dX6_addPublic_14 : decode cX6_addPublic 14 = .ok (.if_icmp .ge 44, 3) := by decide +kernel
theorem dX6_addPublic_17 : decode cX6_addPublic 17 = .ok (.aload_n 0, 1) := by decide +kernel
theorem dX6_addPublic_18 : decode cX6_addPublic 18 = .ok (.getfield 57, 3) := by decide +kernel
theorem dX6_addPublic_21 : decode cX6_addPublic 21 = .ok (.aload_n 0, 1) := by decide +kernel
theorem dX6_addPublic_22 : decode cX6_addPublic 22 = .ok (.getfield 54, 3) := by decide +kernel
theorem dX6_addPublic_25 : decode cX6_addPublic 25 = .ok (.lload_n 1, 1) := by decide +kernel
theorem dX6_addPublic_26 : decode cX6_addPublic 26 = .ok (.lastore, 1) := by decide +kernel
theorem dX6_addPublic_27 : decode cX6_addPublic 27 = .ok (.aload_n 0, 1) := by decide +kernel
theorem dX6_addPublic_28 : decode cX6_addPublic 28 = .ok (.getfield 60, 3) := by decide +kernel
theorem dX6_addPublic_31 : decode cX6_addPublic 31 = .ok (.aload_n 0, 1) := by decide +kernel
theorem dX6_addPublic_32 : decode cX6_addPublic 32 = .ok (.getfield 54, 3) := by decide +kernel
theorem dX6_addPublic_35 : decode cX6_addPublic 35 = .ok (.iload_n 3, 1) := by decide +kernel
theorem dX6_addPublic_36 : decode cX6_addPublic 36 = .ok (.iastore, 1) := by decide +kernel
theorem dX6_addPublic_37 : decode cX6_addPublic 37 = .ok (.aload_n 0, 1) := by decide +kernel
theorem dX6_addPublic_38 : decode cX6_addPublic 38 = .ok (.getfield 63, 3) := by decide +kernel
theorem dX6_addPublic_41 : decode cX6_addPublic 41 = .ok (.aload_n 0, 1) := by decide +kernel
theorem dX6_addPublic_42 : decode cX6_addPublic 42 = .ok (.getfield 54, 3) := by decide +kernel
theorem dX6_addPublic_45 : decode cX6_addPublic 45 = .ok (.iload 4, 2) := by decide +kernel
theorem dX6_addPublic_47 : decode cX6_addPublic 47 = .ok (.iastore, 1) := by decide +kernel
theorem dX6_addPublic_48 : decode cX6_addPublic 48 = .ok (.aload_n 0, 1) := by decide +kernel
theorem dX6_addPublic_49 : decode cX6_addPublic 49 = .ok (.dup, 1) := by decide +kernel
theorem dX6_addPublic_50 : decode cX6_addPublic 50 = .ok (.getfield 54, 3) := by decide +kernel
theorem dX6_addPublic_53 : decode cX6_addPublic 53 = .ok (.iconst 1, 1) := by decide +kernel
theorem dX6_addPublic_54 : decode cX6_addPublic 54 = .ok (.iadd, 1) := by decide +kernel
theorem dX6_addPublic_55 : decode cX6_addPublic 55 = .ok (.putfield 54, 3) := by decide +kernel
set_option maxHeartbeats 4000000 in
set_option maxRecDepth 100000 in
theorem s_X6_addSegment (l : Launch) (D : va_G) (dA : Nat → ClassId) (t0 : Nat) (a0 : Int64) (a1 : Int32) (a2 : Int32) (i0 : Int32) (i1 : Int32) (c2 : Nat) (c3 : Nat) (c4 : Nat) (c5 : Nat) (c6 : Nat) (i7 : Int32) (c8 : Nat) (c9 : Nat) (c10 : Nat) (c11 : Nat) (c12 : Nat) (i13 : Int32) (c14 : Nat) (c15 : Nat) (c16 : Nat) (m2 : Nat → Int64) (m3 : Nat → Int32) (m4 : Nat → Int32) (m5 : Nat → Int32) (p0 : 0 ≤ i0.toInt ∧ i0.toInt ≤ 1) (p1 : 0 ≤ i1.toInt ∧ i1.toInt ≤ 24) (p2 : 0 ≤ i7.toInt ∧ i7.toInt ≤ 200) (p3 : 0 ≤ i13.toInt ∧ i13.toInt ≤ 24) (sz : Nat) : Met l yX6_addSegment (gws yX6_addSegment cX6_addSegment 6 none) (gR 1 0 0) (gPre D dA [.ref t0, .long a0, .int a1, .int a2] [(t0, .inr (6, [.int i0, .int i1, .ref c2, .ref c3, .ref c4, .ref c5, .ref c6, .int i7, .ref c8, .ref c9, .ref c10, .ref c11, .ref c12, .int i13, .ref c14, .ref c15, .ref c16])), (c2, .inl (dA 1, 24, .inr (.inl m2))), (c3, .inl (dA 0, 24, .inl m3)), (c4, .inl (dA 0, 24, .inl m4)), (c5, .inl (dA 0, 24, .inl m5))] sz) (va_Qv (fun u : Int32 × (Nat → Int64) × (Nat → Int32) × (Nat → Int32) × (Nat → Int32) => (0 ≤ u.1.toInt ∧ u.1.toInt ≤ 24)) (gAt D dA (va_A [(t0, .inr (6, [.int i0, .int i1, .ref c2, .ref c3, .ref c4, .ref c5, .ref c6, .int i7, .ref c8, .ref c9, .ref c10, .ref c11, .ref c12, .int i13, .ref c14, .ref c15, .ref c16])), (c2, .inl (dA 1, 24, .inr (.inl m2))), (c3, .inl (dA 0, 24, .inl m3)), (c4, .inl (dA 0, 24, .inl m4)), (c5, .inl (dA 0, 24, .inl m5))] sz) (fun u : Int32 × (Nat → Int64) × (Nat → Int32) × (Nat → Int32) × (Nat → Int32) => [(t0, .inr (6, [.int i0, .int u.1, .ref c2, .ref c3, .ref c4, .ref c5, .ref c6, .int i7, .ref c8, .ref c9, .ref c10, .ref c11, .ref c12, .int i13, .ref c14, .ref c15, .ref c16])), (c2, .inl (dA 1, 24, .inr (.inl (u.2.1)))), (c3, .inl (dA 0, 24, .inl (u.2.2.1))), (c4, .inl (dA 0, 24, .inl (u.2.2.2.1))), (c5, .inl (dA 0, 24, .inl (u.2.2.2.2)))])) (va_A [(t0, .inr (6, [.int i0, .int i1, .ref c2, .ref c3, .ref c4, .ref c5, .ref c6, .int i7, .ref c8, .ref c9, .ref c10, .ref c11, .ref c12, .int i13, .ref c14, .ref c15, .ref c16])), (c2, .inl (dA 1, 24, .inr (.inl m2))), (c3, .inl (dA 0, 24, .inl m3)), (c4, .inl (dA 0, 24, .inl m4)), (c5, .inl (dA 0, 24, .inl m5))] sz)) 0 0 (va_A [(t0, .inr (6, [.int i0, .int i1, .ref c2, .ref c3, .ref c4, .ref c5, .ref c6, .int i7, .ref c8, .ref c9, .ref c10, .ref c11, .ref c12, .int i13, .ref c14, .ref c15, .ref c16])), (c2, .inl (dA 1, 24, .inr (.inl m2))), (c3, .inl (dA 0, 24, .inl m3)), (c4, .inl (dA 0, 24, .inl m4)), (c5, .inl (dA 0, 24, .inl m5))] sz) := by
  refine Met.ofW (cc := cX6_addSegment) (maxL := 6) (ret := none) (by decide) rfl ?_
  intro p e s m args below meth c s₁ B hml hv
  obtain ⟨rfl, hsz, hP, hK, hD0⟩ := hv
  have hx := B.exec
  have hb := B.bytes
  have hr := B.returns
  have hts := atoms_spec (ws := gws yX6_addSegment cX6_addSegment 6 none) B.pre
  have hg : ∀ w ∈ gw, w.before _ s = true := fun w h => hts w (List.mem_cons_of_mem _ h)
  have hown : s.vm.findClass RX6 = some m.cls := findClass_of_methodNamed B.named
  have hlocks := B.notSynchronized
  subst hsz
  have hD := hD0.self (sz := s.heap.size)
  generalize hAe : va_A [(t0, .inr (6, [.int i0, .int i1, .ref c2, .ref c3, .ref c4, .ref c5, .ref c6, .int i7, .ref c8, .ref c9, .ref c10, .ref c11, .ref c12, .int i13, .ref c14, .ref c15, .ref c16])), (c2, .inl (dA 1, 24, .inr (.inl m2))), (c3, .inl (dA 0, 24, .inl m3)), (c4, .inl (dA 0, 24, .inl m4)), (c5, .inl (dA 0, 24, .inl m5))] s.heap.size = A at hD ⊢
  have hA : ∀ q : Nat, s.heap.size ≤ q → A q := fun q h => by rw [← hAe]; exact Or.inr h
  have hS : va_S A s.heap s.heap [] := va_S.rf
  have hP : va_P D vwC [(t0, .inr (6, [.int i0, .int i1, .ref c2, .ref c3, .ref c4, .ref c5, .ref c6, .int i7, .ref c8, .ref c9, .ref c10, .ref c11, .ref c12, .int i13, .ref c14, .ref c15, .ref c16])), (c2, .inl (dA 1, 24, .inr (.inl m2))), (c3, .inl (dA 0, 24, .inl m3)), (c4, .inl (dA 0, 24, .inl m4)), (c5, .inl (dA 0, 24, .inl m5))] s.heap := hP
  have hl := lv_entry ([.ref t0, .long a0, .int a1, .int a2]) (n := 6) (Nat.le_of_ble_eq_true rfl)
  rw [lg_entry_eq]
  generalize (lg_sl ([.ref t0, .long a0, .int a1, .int a2]) ++ List.replicate (6 - (lg_sl ([.ref t0, .long a0, .int a1, .int a2])).length) Slot.unset).toArray = ls at hl ⊢
  have hl : lv_has ls 6 [(0, .ref t0), (1, .long a0), (3, .int a1), (4, .int a2)] := hl
  refine lv_aload_n hx hb dX6_addSegment_0 rfl (lv_at hl 0 rfl) ?_
  refine g_get hx hb hg hown hK hP 0 rfl rfl inX6 1 (by decide) q401 rfl dX6_addSegment_1 ?_
  refine lv_bipush (v := 24) hx hb dX6_addSegment_4 (by decide) ?_
  refine lv_icmp_ge (tgt := 96) hx hb dX6_addSegment_6 (by decide) (fun k1 => ?_) (fun k1 => ?_)
  · have g2 : 24 ≤ i1.toInt := gi_le (by decide : (24 : Int32).toInt = 24) (rfl : i1.toInt = i1.toInt) k1
    exact g_vret hx hb hr hlocks hK (i1, m2, m3, m4, m5) hP hD hS (show 0 ≤ i1.toInt ∧ i1.toInt ≤ 24 from by omega) (Nat.le_of_ble_eq_true rfl) (Nat.le_of_ble_eq_true rfl) dX6_addSegment_96
  · have g3 : 24 > i1.toInt := gi_nle (by decide : (24 : Int32).toInt = 24) (rfl : i1.toInt = i1.toInt) k1
    refine lv_iconst (v := 0) hx hb dX6_addSegment_9 (by decide) ?_
    refine lv_istore (lv' := [(5, .int 0), (0, .ref t0), (1, .long a0), (3, .int a1), (4, .int a2)]) hx hb dX6_addSegment_10 hl (by decide) rfl (fun ls hl => ?_)
    refine lv_aload_n hx hb dX6_addSegment_12 rfl (lv_at hl 1 rfl) ?_
    refine g_get hx hb hg hown hK hP 0 rfl rfl inX6 1 (by decide) q401 rfl dX6_addSegment_13 ?_
    refine lv_if_le (tgt := 44) hx hb dX6_addSegment_16 (by decide) (fun k4 => ?_) (fun k4 => ?_)
    · have g5 : i1.toInt ≤ 0 := gi_le (rfl : i1.toInt = i1.toInt) (by decide : (0 : Int32).toInt = 0) k4
      refine lv_aload_n hx hb dX6_addSegment_44 rfl (lv_at hl 1 rfl) ?_
      refine g_get hx hb hg hown hK hP 0 rfl rfl inX6 2 (by decide) q404 rfl dX6_addSegment_45 ?_
      refine lv_aload_n hx hb dX6_addSegment_48 rfl (lv_at hl 1 rfl) ?_
      refine g_get hx hb hg hown hK hP 0 rfl rfl inX6 1 (by decide) q401 rfl dX6_addSegment_49 ?_
      refine lv_lload_n hx hb dX6_addSegment_52 rfl (lv_at hl 2 rfl) ?_
      refine va_last hx hb hK hP hD hS 1 1 rfl rfl (by rw [vp_in_iff]; omega) dX6_addSegment_53 (fun H locs hP hD hS => ?_)
      have hP : va_P D vwC [(t0, .inr (6, [.int i0, .int i1, .ref c2, .ref c3, .ref c4, .ref c5, .ref c6, .int i7, .ref c8, .ref c9, .ref c10, .ref c11, .ref c12, .int i13, .ref c14, .ref c15, .ref c16])), (c2, .inl (dA 1, 24, .inr (.inl (vp_updL m2 (i1 : Int32).toNatClampNeg a0)))), (c3, .inl (dA 0, 24, .inl m3)), (c4, .inl (dA 0, 24, .inl m4)), (c5, .inl (dA 0, 24, .inl m5))] H := hP
      have hD : va_D A [(t0, .inr (6, [.int i0, .int i1, .ref c2, .ref c3, .ref c4, .ref c5, .ref c6, .int i7, .ref c8, .ref c9, .ref c10, .ref c11, .ref c12, .int i13, .ref c14, .ref c15, .ref c16])), (c2, .inl (dA 1, 24, .inr (.inl (vp_updL m2 (i1 : Int32).toNatClampNeg a0)))), (c3, .inl (dA 0, 24, .inl m3)), (c4, .inl (dA 0, 24, .inl m4)), (c5, .inl (dA 0, 24, .inl m5))] := hD
      obtain ⟨f6, ef6⟩ : ∃ f : Nat → Int64, f = (vp_updL m2 (i1 : Int32).toNatClampNeg a0) := ⟨_, rfl⟩
      rw [← ef6] at hP hD
      refine lv_aload_n hx hb dX6_addSegment_54 rfl (lv_at hl 1 rfl) ?_
      refine g_get hx hb hg hown hK hP 0 rfl rfl inX6 3 (by decide) q406 rfl dX6_addSegment_55 ?_
      refine lv_aload_n hx hb dX6_addSegment_58 rfl (lv_at hl 1 rfl) ?_
      refine g_get hx hb hg hown hK hP 0 rfl rfl inX6 1 (by decide) q401 rfl dX6_addSegment_59 ?_
      refine lv_iload_n hx hb dX6_addSegment_62 rfl (lv_at hl 3 rfl) ?_
      refine va_iast hx hb hK hP hD hS 2 0 rfl rfl (by rw [vp_in_iff]; omega) dX6_addSegment_63 (fun H locs hP hD hS => ?_)
      have hP : va_P D vwC [(t0, .inr (6, [.int i0, .int i1, .ref c2, .ref c3, .ref c4, .ref c5, .ref c6, .int i7, .ref c8, .ref c9, .ref c10, .ref c11, .ref c12, .int i13, .ref c14, .ref c15, .ref c16])), (c2, .inl (dA 1, 24, .inr (.inl f6))), (c3, .inl (dA 0, 24, .inl (upd m3 (i1 : Int32).toNatClampNeg a1))), (c4, .inl (dA 0, 24, .inl m4)), (c5, .inl (dA 0, 24, .inl m5))] H := hP
      have hD : va_D A [(t0, .inr (6, [.int i0, .int i1, .ref c2, .ref c3, .ref c4, .ref c5, .ref c6, .int i7, .ref c8, .ref c9, .ref c10, .ref c11, .ref c12, .int i13, .ref c14, .ref c15, .ref c16])), (c2, .inl (dA 1, 24, .inr (.inl f6))), (c3, .inl (dA 0, 24, .inl (upd m3 (i1 : Int32).toNatClampNeg a1))), (c4, .inl (dA 0, 24, .inl m4)), (c5, .inl (dA 0, 24, .inl m5))] := hD
      obtain ⟨f7, ef7⟩ : ∃ f : Nat → Int32, f = (upd m3 (i1 : Int32).toNatClampNeg a1) := ⟨_, rfl⟩
      rw [← ef7] at hP hD
      refine lv_aload_n hx hb dX6_addSegment_64 rfl (lv_at hl 1 rfl) ?_
      refine g_get hx hb hg hown hK hP 0 rfl rfl inX6 4 (by decide) q408 rfl dX6_addSegment_65 ?_
      refine lv_aload_n hx hb dX6_addSegment_68 rfl (lv_at hl 1 rfl) ?_
      refine g_get hx hb hg hown hK hP 0 rfl rfl inX6 1 (by decide) q401 rfl dX6_addSegment_69 ?_
      refine lv_iload hx hb dX6_addSegment_72 (lv_at hl 4 rfl) ?_
      refine va_iast hx hb hK hP hD hS 3 0 rfl rfl (by rw [vp_in_iff]; omega) dX6_addSegment_74 (fun H locs hP hD hS => ?_)
      have hP : va_P D vwC [(t0, .inr (6, [.int i0, .int i1, .ref c2, .ref c3, .ref c4, .ref c5, .ref c6, .int i7, .ref c8, .ref c9, .ref c10, .ref c11, .ref c12, .int i13, .ref c14, .ref c15, .ref c16])), (c2, .inl (dA 1, 24, .inr (.inl f6))), (c3, .inl (dA 0, 24, .inl f7)), (c4, .inl (dA 0, 24, .inl (upd m4 (i1 : Int32).toNatClampNeg a2))), (c5, .inl (dA 0, 24, .inl m5))] H := hP
      have hD : va_D A [(t0, .inr (6, [.int i0, .int i1, .ref c2, .ref c3, .ref c4, .ref c5, .ref c6, .int i7, .ref c8, .ref c9, .ref c10, .ref c11, .ref c12, .int i13, .ref c14, .ref c15, .ref c16])), (c2, .inl (dA 1, 24, .inr (.inl f6))), (c3, .inl (dA 0, 24, .inl f7)), (c4, .inl (dA 0, 24, .inl (upd m4 (i1 : Int32).toNatClampNeg a2))), (c5, .inl (dA 0, 24, .inl m5))] := hD
      obtain ⟨f8, ef8⟩ : ∃ f : Nat → Int32, f = (upd m4 (i1 : Int32).toNatClampNeg a2) := ⟨_, rfl⟩
      rw [← ef8] at hP hD
      refine lv_aload_n hx hb dX6_addSegment_75 rfl (lv_at hl 1 rfl) ?_
      refine g_get hx hb hg hown hK hP 0 rfl rfl inX6 5 (by decide) q411 rfl dX6_addSegment_76 ?_
      refine lv_aload_n hx hb dX6_addSegment_79 rfl (lv_at hl 1 rfl) ?_
      refine g_get hx hb hg hown hK hP 0 rfl rfl inX6 1 (by decide) q401 rfl dX6_addSegment_80 ?_
      refine lv_iload hx hb dX6_addSegment_83 (lv_at hl 0 rfl) ?_
      refine va_iast hx hb hK hP hD hS 4 0 rfl rfl (by rw [vp_in_iff]; omega) dX6_addSegment_85 (fun H locs hP hD hS => ?_)
      have hP : va_P D vwC [(t0, .inr (6, [.int i0, .int i1, .ref c2, .ref c3, .ref c4, .ref c5, .ref c6, .int i7, .ref c8, .ref c9, .ref c10, .ref c11, .ref c12, .int i13, .ref c14, .ref c15, .ref c16])), (c2, .inl (dA 1, 24, .inr (.inl f6))), (c3, .inl (dA 0, 24, .inl f7)), (c4, .inl (dA 0, 24, .inl f8)), (c5, .inl (dA 0, 24, .inl (upd m5 (i1 : Int32).toNatClampNeg 0)))] H := hP
      have hD : va_D A [(t0, .inr (6, [.int i0, .int i1, .ref c2, .ref c3, .ref c4, .ref c5, .ref c6, .int i7, .ref c8, .ref c9, .ref c10, .ref c11, .ref c12, .int i13, .ref c14, .ref c15, .ref c16])), (c2, .inl (dA 1, 24, .inr (.inl f6))), (c3, .inl (dA 0, 24, .inl f7)), (c4, .inl (dA 0, 24, .inl f8)), (c5, .inl (dA 0, 24, .inl (upd m5 (i1 : Int32).toNatClampNeg 0)))] := hD
      obtain ⟨f9, ef9⟩ : ∃ f : Nat → Int32, f = (upd m5 (i1 : Int32).toNatClampNeg 0) := ⟨_, rfl⟩
      rw [← ef9] at hP hD
      refine lv_aload_n hx hb dX6_addSegment_86 rfl (lv_at hl 1 rfl) ?_
      refine lv_dup hx hb dX6_addSegment_87 rfl ?_
      refine g_get hx hb hg hown hK hP 0 rfl rfl inX6 1 (by decide) q401 rfl dX6_addSegment_88 ?_
      refine lv_iconst (v := 1) hx hb dX6_addSegment_91 (by decide) ?_
      refine lv_iadd hx hb dX6_addSegment_92 ?_
      refine lv_topi (fun x10 e11 => ?_)
      have g12 : x10.toInt = i1.toInt + 1 := g_add e11 rfl (by decide) (by omega) (by omega)
      refine g_put (w' := [(t0, .inr (6, [.int i0, .int x10, .ref c2, .ref c3, .ref c4, .ref c5, .ref c6, .int i7, .ref c8, .ref c9, .ref c10, .ref c11, .ref c12, .int i13, .ref c14, .ref c15, .ref c16])), (c2, .inl (dA 1, 24, .inr (.inl f6))), (c3, .inl (dA 0, 24, .inl f7)), (c4, .inl (dA 0, 24, .inl f8)), (c5, .inl (dA 0, 24, .inl f9))]) hx hb hg hown hK hP hD hS 0 rfl rfl inX6 tyX6_ok nmX6 1 (by decide) q401 rfl rfl rfl (Nat.le_of_ble_eq_true rfl) rfl dX6_addSegment_93 (fun H locs hP hD hS => ?_)
      exact g_vret hx hb hr hlocks hK (x10, f6, f7, f8, f9) hP hD hS (show 0 ≤ x10.toInt ∧ x10.toInt ≤ 24 from by omega) (Nat.le_of_ble_eq_true rfl) (Nat.le_of_ble_eq_true rfl) dX6_addSegment_96
    · have g13 : i1.toInt > 0 := gi_nle (rfl : i1.toInt = i1.toInt) (by decide : (0 : Int32).toInt = 0) k4
      refine lv_aload_n hx hb dX6_addSegment_19 rfl (lv_at hl 1 rfl) ?_
      refine g_get hx hb hg hown hK hP 0 rfl rfl inX6 5 (by decide) q411 rfl dX6_addSegment_20 ?_
      refine lv_aload_n hx hb dX6_addSegment_23 rfl (lv_at hl 1 rfl) ?_
      refine g_get hx hb hg hown hK hP 0 rfl rfl inX6 1 (by decide) q401 rfl dX6_addSegment_24 ?_
      refine lv_iconst (v := 1) hx hb dX6_addSegment_27 (by decide) ?_
      refine lv_isub hx hb dX6_addSegment_28 ?_
      refine lv_topi (fun x14 e15 => ?_)
      have g16 : x14.toInt = i1.toInt - 1 := g_sub e15 rfl (by decide) (by omega) (by omega)
      refine va_iald hx hb hK hP 4 0 rfl rfl (by rw [vp_in_iff]; omega) dX6_addSegment_29 ?_
      refine lv_topi (fun x17 e18 => ?_)
      refine lv_aload_n hx hb dX6_addSegment_30 rfl (lv_at hl 1 rfl) ?_
      refine g_get hx hb hg hown hK hP 0 rfl rfl inX6 4 (by decide) q408 rfl dX6_addSegment_31 ?_
      refine lv_aload_n hx hb dX6_addSegment_34 rfl (lv_at hl 1 rfl) ?_
      refine g_get hx hb hg hown hK hP 0 rfl rfl inX6 1 (by decide) q401 rfl dX6_addSegment_35 ?_
      refine lv_iconst (v := 1) hx hb dX6_addSegment_38 (by decide) ?_
      refine lv_isub hx hb dX6_addSegment_39 ?_
      refine lv_topi (fun x19 e20 => ?_)
      have g21 : x19.toInt = i1.toInt - 1 := g_sub e20 rfl (by decide) (by omega) (by omega)
      refine va_iald hx hb hK hP 3 0 rfl rfl (by rw [vp_in_iff]; omega) dX6_addSegment_40 ?_
      refine lv_topi (fun x22 e23 => ?_)
      refine lv_iadd hx hb dX6_addSegment_41 ?_
      have g24 := g_i32 x17
      have g25 := g_i32 x22
      refine lv_topi (fun x26 e27 => ?_)
      refine lv_istore (lv' := [(5, .int x26), (0, .ref t0), (1, .long a0), (3, .int a1), (4, .int a2)]) hx hb dX6_addSegment_42 hl (by decide) rfl (fun ls hl => ?_)
      refine lv_aload_n hx hb dX6_addSegment_44 rfl (lv_at hl 1 rfl) ?_
      refine g_get hx hb hg hown hK hP 0 rfl rfl inX6 2 (by decide) q404 rfl dX6_addSegment_45 ?_
      refine lv_aload_n hx hb dX6_addSegment_48 rfl (lv_at hl 1 rfl) ?_
      refine g_get hx hb hg hown hK hP 0 rfl rfl inX6 1 (by decide) q401 rfl dX6_addSegment_49 ?_
      refine lv_lload_n hx hb dX6_addSegment_52 rfl (lv_at hl 2 rfl) ?_
      refine va_last hx hb hK hP hD hS 1 1 rfl rfl (by rw [vp_in_iff]; omega) dX6_addSegment_53 (fun H locs hP hD hS => ?_)
      have hP : va_P D vwC [(t0, .inr (6, [.int i0, .int i1, .ref c2, .ref c3, .ref c4, .ref c5, .ref c6, .int i7, .ref c8, .ref c9, .ref c10, .ref c11, .ref c12, .int i13, .ref c14, .ref c15, .ref c16])), (c2, .inl (dA 1, 24, .inr (.inl (vp_updL m2 (i1 : Int32).toNatClampNeg a0)))), (c3, .inl (dA 0, 24, .inl m3)), (c4, .inl (dA 0, 24, .inl m4)), (c5, .inl (dA 0, 24, .inl m5))] H := hP
      have hD : va_D A [(t0, .inr (6, [.int i0, .int i1, .ref c2, .ref c3, .ref c4, .ref c5, .ref c6, .int i7, .ref c8, .ref c9, .ref c10, .ref c11, .ref c12, .int i13, .ref c14, .ref c15, .ref c16])), (c2, .inl (dA 1, 24, .inr (.inl (vp_updL m2 (i1 : Int32).toNatClampNeg a0)))), (c3, .inl (dA 0, 24, .inl m3)), (c4, .inl (dA 0, 24, .inl m4)), (c5, .inl (dA 0, 24, .inl m5))] := hD
      obtain ⟨f28, ef28⟩ : ∃ f : Nat → Int64, f = (vp_updL m2 (i1 : Int32).toNatClampNeg a0) := ⟨_, rfl⟩
      rw [← ef28] at hP hD
      refine lv_aload_n hx hb dX6_addSegment_54 rfl (lv_at hl 1 rfl) ?_
      refine g_get hx hb hg hown hK hP 0 rfl rfl inX6 3 (by decide) q406 rfl dX6_addSegment_55 ?_
      refine lv_aload_n hx hb dX6_addSegment_58 rfl (lv_at hl 1 rfl) ?_
      refine g_get hx hb hg hown hK hP 0 rfl rfl inX6 1 (by decide) q401 rfl dX6_addSegment_59 ?_
      refine lv_iload_n hx hb dX6_addSegment_62 rfl (lv_at hl 3 rfl) ?_
      refine va_iast hx hb hK hP hD hS 2 0 rfl rfl (by rw [vp_in_iff]; omega) dX6_addSegment_63 (fun H locs hP hD hS => ?_)
      have hP : va_P D vwC [(t0, .inr (6, [.int i0, .int i1, .ref c2, .ref c3, .ref c4, .ref c5, .ref c6, .int i7, .ref c8, .ref c9, .ref c10, .ref c11, .ref c12, .int i13, .ref c14, .ref c15, .ref c16])), (c2, .inl (dA 1, 24, .inr (.inl f28))), (c3, .inl (dA 0, 24, .inl (upd m3 (i1 : Int32).toNatClampNeg a1))), (c4, .inl (dA 0, 24, .inl m4)), (c5, .inl (dA 0, 24, .inl m5))] H := hP
      have hD : va_D A [(t0, .inr (6, [.int i0, .int i1, .ref c2, .ref c3, .ref c4, .ref c5, .ref c6, .int i7, .ref c8, .ref c9, .ref c10, .ref c11, .ref c12, .int i13, .ref c14, .ref c15, .ref c16])), (c2, .inl (dA 1, 24, .inr (.inl f28))), (c3, .inl (dA 0, 24, .inl (upd m3 (i1 : Int32).toNatClampNeg a1))), (c4, .inl (dA 0, 24, .inl m4)), (c5, .inl (dA 0, 24, .inl m5))] := hD
      obtain ⟨f29, ef29⟩ : ∃ f : Nat → Int32, f = (upd m3 (i1 : Int32).toNatClampNeg a1) := ⟨_, rfl⟩
      rw [← ef29] at hP hD
      refine lv_aload_n hx hb dX6_addSegment_64 rfl (lv_at hl 1 rfl) ?_
      refine g_get hx hb hg hown hK hP 0 rfl rfl inX6 4 (by decide) q408 rfl dX6_addSegment_65 ?_
      refine lv_aload_n hx hb dX6_addSegment_68 rfl (lv_at hl 1 rfl) ?_
      refine g_get hx hb hg hown hK hP 0 rfl rfl inX6 1 (by decide) q401 rfl dX6_addSegment_69 ?_
      refine lv_iload hx hb dX6_addSegment_72 (lv_at hl 4 rfl) ?_
      refine va_iast hx hb hK hP hD hS 3 0 rfl rfl (by rw [vp_in_iff]; omega) dX6_addSegment_74 (fun H locs hP hD hS => ?_)
      have hP : va_P D vwC [(t0, .inr (6, [.int i0, .int i1, .ref c2, .ref c3, .ref c4, .ref c5, .ref c6, .int i7, .ref c8, .ref c9, .ref c10, .ref c11, .ref c12, .int i13, .ref c14, .ref c15, .ref c16])), (c2, .inl (dA 1, 24, .inr (.inl f28))), (c3, .inl (dA 0, 24, .inl f29)), (c4, .inl (dA 0, 24, .inl (upd m4 (i1 : Int32).toNatClampNeg a2))), (c5, .inl (dA 0, 24, .inl m5))] H := hP
      have hD : va_D A [(t0, .inr (6, [.int i0, .int i1, .ref c2, .ref c3, .ref c4, .ref c5, .ref c6, .int i7, .ref c8, .ref c9, .ref c10, .ref c11, .ref c12, .int i13, .ref c14, .ref c15, .ref c16])), (c2, .inl (dA 1, 24, .inr (.inl f28))), (c3, .inl (dA 0, 24, .inl f29)), (c4, .inl (dA 0, 24, .inl (upd m4 (i1 : Int32).toNatClampNeg a2))), (c5, .inl (dA 0, 24, .inl m5))] := hD
      obtain ⟨f30, ef30⟩ : ∃ f : Nat → Int32, f = (upd m4 (i1 : Int32).toNatClampNeg a2) := ⟨_, rfl⟩
      rw [← ef30] at hP hD
      refine lv_aload_n hx hb dX6_addSegment_75 rfl (lv_at hl 1 rfl) ?_
      refine g_get hx hb hg hown hK hP 0 rfl rfl inX6 5 (by decide) q411 rfl dX6_addSegment_76 ?_
      refine lv_aload_n hx hb dX6_addSegment_79 rfl (lv_at hl 1 rfl) ?_
      refine g_get hx hb hg hown hK hP 0 rfl rfl inX6 1 (by decide) q401 rfl dX6_addSegment_80 ?_
      refine lv_iload hx hb dX6_addSegment_83 (lv_at hl 0 rfl) ?_
      refine va_iast hx hb hK hP hD hS 4 0 rfl rfl (by rw [vp_in_iff]; omega) dX6_addSegment_85 (fun H locs hP hD hS => ?_)
      have hP : va_P D vwC [(t0, .inr (6, [.int i0, .int i1, .ref c2, .ref c3, .ref c4, .ref c5, .ref c6, .int i7, .ref c8, .ref c9, .ref c10, .ref c11, .ref c12, .int i13, .ref c14, .ref c15, .ref c16])), (c2, .inl (dA 1, 24, .inr (.inl f28))), (c3, .inl (dA 0, 24, .inl f29)), (c4, .inl (dA 0, 24, .inl f30)), (c5, .inl (dA 0, 24, .inl (upd m5 (i1 : Int32).toNatClampNeg x26)))] H := hP
      have hD : va_D A [(t0, .inr (6, [.int i0, .int i1, .ref c2, .ref c3, .ref c4, .ref c5, .ref c6, .int i7, .ref c8, .ref c9, .ref c10, .ref c11, .ref c12, .int i13, .ref c14, .ref c15, .ref c16])), (c2, .inl (dA 1, 24, .inr (.inl f28))), (c3, .inl (dA 0, 24, .inl f29)), (c4, .inl (dA 0, 24, .inl f30)), (c5, .inl (dA 0, 24, .inl (upd m5 (i1 : Int32).toNatClampNeg x26)))] := hD
      obtain ⟨f31, ef31⟩ : ∃ f : Nat → Int32, f = (upd m5 (i1 : Int32).toNatClampNeg x26) := ⟨_, rfl⟩
      rw [← ef31] at hP hD
      refine lv_aload_n hx hb dX6_addSegment_86 rfl (lv_at hl 1 rfl) ?_
      refine lv_dup hx hb dX6_addSegment_87 rfl ?_
      refine g_get hx hb hg hown hK hP 0 rfl rfl inX6 1 (by decide) q401 rfl dX6_addSegment_88 ?_
      refine lv_iconst (v := 1) hx hb dX6_addSegment_91 (by decide) ?_
      refine lv_iadd hx hb dX6_addSegment_92 ?_
      refine lv_topi (fun x32 e33 => ?_)
      have g34 : x32.toInt = i1.toInt + 1 := g_add e33 rfl (by decide) (by omega) (by omega)
      refine g_put (w' := [(t0, .inr (6, [.int i0, .int x32, .ref c2, .ref c3, .ref c4, .ref c5, .ref c6, .int i7, .ref c8, .ref c9, .ref c10, .ref c11, .ref c12, .int i13, .ref c14, .ref c15, .ref c16])), (c2, .inl (dA 1, 24, .inr (.inl f28))), (c3, .inl (dA 0, 24, .inl f29)), (c4, .inl (dA 0, 24, .inl f30)), (c5, .inl (dA 0, 24, .inl f31))]) hx hb hg hown hK hP hD hS 0 rfl rfl inX6 tyX6_ok nmX6 1 (by decide) q401 rfl rfl rfl (Nat.le_of_ble_eq_true rfl) rfl dX6_addSegment_93 (fun H locs hP hD hS => ?_)
      exact g_vret hx hb hr hlocks hK (x32, f28, f29, f30, f31) hP hD hS (show 0 ≤ x32.toInt ∧ x32.toInt ≤ 24 from by omega) (Nat.le_of_ble_eq_true rfl) (Nat.le_of_ble_eq_true rfl) dX6_addSegment_96
set_option maxHeartbeats 4000000 in
set_option maxRecDepth 100000 in
theorem s_X6_addPublic (l : Launch) (D : va_G) (dA : Nat → ClassId) (t0 : Nat) (a0 : Int64) (a1 : Int32) (a2 : Int32) (i0 : Int32) (i1 : Int32) (c2 : Nat) (c3 : Nat) (c4 : Nat) (c5 : Nat) (c6 : Nat) (i7 : Int32) (c8 : Nat) (c9 : Nat) (c10 : Nat) (c11 : Nat) (c12 : Nat) (i13 : Int32) (c14 : Nat) (c15 : Nat) (c16 : Nat) (m14 : Nat → Int64) (m15 : Nat → Int32) (m16 : Nat → Int32) (p0 : 0 ≤ i0.toInt ∧ i0.toInt ≤ 1) (p1 : 0 ≤ i1.toInt ∧ i1.toInt ≤ 24) (p2 : 0 ≤ i7.toInt ∧ i7.toInt ≤ 200) (p3 : 0 ≤ i13.toInt ∧ i13.toInt ≤ 24) (sz : Nat) : Met l yX6_addPublic (gws yX6_addPublic cX6_addPublic 5 none) (gR 2 0 0) (gPre D dA [.ref t0, .long a0, .int a1, .int a2] [(t0, .inr (6, [.int i0, .int i1, .ref c2, .ref c3, .ref c4, .ref c5, .ref c6, .int i7, .ref c8, .ref c9, .ref c10, .ref c11, .ref c12, .int i13, .ref c14, .ref c15, .ref c16])), (c14, .inl (dA 1, 24, .inr (.inl m14))), (c15, .inl (dA 0, 24, .inl m15)), (c16, .inl (dA 0, 24, .inl m16))] sz) (va_Qv (fun u : Int32 × (Nat → Int64) × (Nat → Int32) × (Nat → Int32) => (0 ≤ u.1.toInt ∧ u.1.toInt ≤ 24)) (gAt D dA (va_A [(t0, .inr (6, [.int i0, .int i1, .ref c2, .ref c3, .ref c4, .ref c5, .ref c6, .int i7, .ref c8, .ref c9, .ref c10, .ref c11, .ref c12, .int i13, .ref c14, .ref c15, .ref c16])), (c14, .inl (dA 1, 24, .inr (.inl m14))), (c15, .inl (dA 0, 24, .inl m15)), (c16, .inl (dA 0, 24, .inl m16))] sz) (fun u : Int32 × (Nat → Int64) × (Nat → Int32) × (Nat → Int32) => [(t0, .inr (6, [.int i0, .int i1, .ref c2, .ref c3, .ref c4, .ref c5, .ref c6, .int i7, .ref c8, .ref c9, .ref c10, .ref c11, .ref c12, .int u.1, .ref c14, .ref c15, .ref c16])), (c14, .inl (dA 1, 24, .inr (.inl (u.2.1)))), (c15, .inl (dA 0, 24, .inl (u.2.2.1))), (c16, .inl (dA 0, 24, .inl (u.2.2.2)))])) (va_A [(t0, .inr (6, [.int i0, .int i1, .ref c2, .ref c3, .ref c4, .ref c5, .ref c6, .int i7, .ref c8, .ref c9, .ref c10, .ref c11, .ref c12, .int i13, .ref c14, .ref c15, .ref c16])), (c14, .inl (dA 1, 24, .inr (.inl m14))), (c15, .inl (dA 0, 24, .inl m15)), (c16, .inl (dA 0, 24, .inl m16))] sz)) 0 0 (va_A [(t0, .inr (6, [.int i0, .int i1, .ref c2, .ref c3, .ref c4, .ref c5, .ref c6, .int i7, .ref c8, .ref c9, .ref c10, .ref c11, .ref c12, .int i13, .ref c14, .ref c15, .ref c16])), (c14, .inl (dA 1, 24, .inr (.inl m14))), (c15, .inl (dA 0, 24, .inl m15)), (c16, .inl (dA 0, 24, .inl m16))] sz) := by
  refine Met.ofW (cc := cX6_addPublic) (maxL := 5) (ret := none) (by decide) rfl ?_
  intro p e s m args below meth c s₁ B hml hv
  obtain ⟨rfl, hsz, hP, hK, hD0⟩ := hv
  have hx := B.exec
  have hb := B.bytes
  have hr := B.returns
  have hts := atoms_spec (ws := gws yX6_addPublic cX6_addPublic 5 none) B.pre
  have hg : ∀ w ∈ gw, w.before _ s = true := fun w h => hts w (List.mem_cons_of_mem _ h)
  have hown : s.vm.findClass RX6 = some m.cls := findClass_of_methodNamed B.named
  have hlocks := B.notSynchronized
  subst hsz
  have hD := hD0.self (sz := s.heap.size)
  generalize hAe : va_A [(t0, .inr (6, [.int i0, .int i1, .ref c2, .ref c3, .ref c4, .ref c5, .ref c6, .int i7, .ref c8, .ref c9, .ref c10, .ref c11, .ref c12, .int i13, .ref c14, .ref c15, .ref c16])), (c14, .inl (dA 1, 24, .inr (.inl m14))), (c15, .inl (dA 0, 24, .inl m15)), (c16, .inl (dA 0, 24, .inl m16))] s.heap.size = A at hD ⊢
  have hA : ∀ q : Nat, s.heap.size ≤ q → A q := fun q h => by rw [← hAe]; exact Or.inr h
  have hS : va_S A s.heap s.heap [] := va_S.rf
  have hP : va_P D vwC [(t0, .inr (6, [.int i0, .int i1, .ref c2, .ref c3, .ref c4, .ref c5, .ref c6, .int i7, .ref c8, .ref c9, .ref c10, .ref c11, .ref c12, .int i13, .ref c14, .ref c15, .ref c16])), (c14, .inl (dA 1, 24, .inr (.inl m14))), (c15, .inl (dA 0, 24, .inl m15)), (c16, .inl (dA 0, 24, .inl m16))] s.heap := hP
  have hl := lv_entry ([.ref t0, .long a0, .int a1, .int a2]) (n := 5) (Nat.le_of_ble_eq_true rfl)
  rw [lg_entry_eq]
  generalize (lg_sl ([.ref t0, .long a0, .int a1, .int a2]) ++ List.replicate (5 - (lg_sl ([.ref t0, .long a0, .int a1, .int a2])).length) Slot.unset).toArray = ls at hl ⊢
  have hl : lv_has ls 5 [(0, .ref t0), (1, .long a0), (3, .int a1), (4, .int a2)] := hl
  refine lv_aload_n hx hb dX6_addPublic_0 rfl (lv_at hl 0 rfl) ?_
  refine lv_lload_n hx hb dX6_addPublic_1 rfl (lv_at hl 1 rfl) ?_
  refine g_Vi (n := 1) (As := [.long a0]) (rest := []) (wr := [(c15, .inl (dA 0, 24, .inl m15)), (c16, .inl (dA 0, 24, .inl m16))]) hx hb hml hg hown hK hP hD hS hA (s_X6_publicNumber l D dA t0 a0 i0 i1 c2 c3 c4 c5 c6 i7 c8 c9 c10 c11 c12 i13 c14 c15 c16 m14 (by omega) (by omega) (by omega) (by omega) _) [0, 1] [2, 3] rfl (by decide) rfl (by decide) (by decide) 0 rfl rfl q1210 q156 q1207 q1208 q1209 (by decide +kernel) ⟨(Nat.le_of_ble_eq_true rfl), (Nat.le_of_ble_eq_true rfl)⟩ rfl hl.1 rfl (Nat.le_of_ble_eq_true rfl) dX6_addPublic_2 ⟨(Nat.le_of_ble_eq_true rfl), (Nat.le_of_ble_eq_true rfl)⟩ (fun x2 u1 H locs w3 hP hD hS => ?_)
  refine W.widen (k := 0) (n := 0) (Nat.le_of_ble_eq_true rfl) (Nat.le_of_ble_eq_true rfl) ?_
  have hP : va_P D vwC [(c15, .inl (dA 0, 24, .inl m15)), (c16, .inl (dA 0, 24, .inl m16)), (t0, .inr (6, [.int i0, .int i1, .ref c2, .ref c3, .ref c4, .ref c5, .ref c6, .int i7, .ref c8, .ref c9, .ref c10, .ref c11, .ref c12, .int i13, .ref c14, .ref c15, .ref c16])), (c14, .inl (dA 1, 24, .inr (.inl m14)))] H := hP
  have hD : va_D A [(c15, .inl (dA 0, 24, .inl m15)), (c16, .inl (dA 0, 24, .inl m16)), (t0, .inr (6, [.int i0, .int i1, .ref c2, .ref c3, .ref c4, .ref c5, .ref c6, .int i7, .ref c8, .ref c9, .ref c10, .ref c11, .ref c12, .int i13, .ref c14, .ref c15, .ref c16])), (c14, .inl (dA 1, 24, .inr (.inl m14)))] := hD
  have g4 := w3
  have g4 : -1 ≤ x2.toInt ∧ x2.toInt ≤ 23 := g4
  refine lv_if_ge (tgt := 58) hx hb dX6_addPublic_5 (by decide) (fun k5 => ?_) (fun k5 => ?_)
  · have g6 : 0 ≤ x2.toInt := gi_le (by decide : (0 : Int32).toInt = 0) (rfl : x2.toInt = x2.toInt) k5
    obtain ⟨hP, hD⟩ := g_cut (is := [2, 3, 0, 1]) (w' := [(t0, .inr (6, [.int i0, .int i1, .ref c2, .ref c3, .ref c4, .ref c5, .ref c6, .int i7, .ref c8, .ref c9, .ref c10, .ref c11, .ref c12, .int i13, .ref c14, .ref c15, .ref c16])), (c14, .inl (dA 1, 24, .inr (.inl m14))), (c15, .inl (dA 0, 24, .inl m15)), (c16, .inl (dA 0, 24, .inl m16))]) hP hD (by decide) rfl rfl
    exact g_vret hx hb hr hlocks hK (i13, m14, m15, m16) hP hD hS (show 0 ≤ i13.toInt ∧ i13.toInt ≤ 24 from by omega) (Nat.le_of_ble_eq_true rfl) (Nat.le_of_ble_eq_true rfl) dX6_addPublic_58
  · have g7 : 0 > x2.toInt := gi_nle (by decide : (0 : Int32).toInt = 0) (rfl : x2.toInt = x2.toInt) k5
    refine lv_aload_n hx hb dX6_addPublic_8 rfl (lv_at hl 0 rfl) ?_
    refine g_get hx hb hg hown hK hP 2 rfl rfl inX6 13 (by decide) q434 rfl dX6_addPublic_9 ?_
    refine lv_bipush (v := 24) hx hb dX6_addPublic_12 (by decide) ?_
    refine lv_icmp_ge (tgt := 58) hx hb dX6_addPublic_14 (by decide) (fun k8 => ?_) (fun k8 => ?_)
    · have g9 : 24 ≤ i13.toInt := gi_le (by decide : (24 : Int32).toInt = 24) (rfl : i13.toInt = i13.toInt) k8
      obtain ⟨hP, hD⟩ := g_cut (is := [2, 3, 0, 1]) (w' := [(t0, .inr (6, [.int i0, .int i1, .ref c2, .ref c3, .ref c4, .ref c5, .ref c6, .int i7, .ref c8, .ref c9, .ref c10, .ref c11, .ref c12, .int i13, .ref c14, .ref c15, .ref c16])), (c14, .inl (dA 1, 24, .inr (.inl m14))), (c15, .inl (dA 0, 24, .inl m15)), (c16, .inl (dA 0, 24, .inl m16))]) hP hD (by decide) rfl rfl
      exact g_vret hx hb hr hlocks hK (i13, m14, m15, m16) hP hD hS (show 0 ≤ i13.toInt ∧ i13.toInt ≤ 24 from by omega) (Nat.le_of_ble_eq_true rfl) (Nat.le_of_ble_eq_true rfl) dX6_addPublic_58
    · have g10 : 24 > i13.toInt := gi_nle (by decide : (24 : Int32).toInt = 24) (rfl : i13.toInt = i13.toInt) k8
      refine lv_aload_n hx hb dX6_addPublic_17 rfl (lv_at hl 0 rfl) ?_
      refine g_get hx hb hg hown hK hP 2 rfl rfl inX6 14 (by decide) q436 rfl dX6_addPublic_18 ?_
      refine lv_aload_n hx hb dX6_addPublic_21 rfl (lv_at hl 0 rfl) ?_
      refine g_get hx hb hg hown hK hP 2 rfl rfl inX6 13 (by decide) q434 rfl dX6_addPublic_22 ?_
      refine lv_lload_n hx hb dX6_addPublic_25 rfl (lv_at hl 1 rfl) ?_
      refine va_last hx hb hK hP hD hS 3 1 rfl rfl (by rw [vp_in_iff]; omega) dX6_addPublic_26 (fun H locs hP hD hS => ?_)
      have hP : va_P D vwC [(c15, .inl (dA 0, 24, .inl m15)), (c16, .inl (dA 0, 24, .inl m16)), (t0, .inr (6, [.int i0, .int i1, .ref c2, .ref c3, .ref c4, .ref c5, .ref c6, .int i7, .ref c8, .ref c9, .ref c10, .ref c11, .ref c12, .int i13, .ref c14, .ref c15, .ref c16])), (c14, .inl (dA 1, 24, .inr (.inl (vp_updL m14 (i13 : Int32).toNatClampNeg a0))))] H := hP
      have hD : va_D A [(c15, .inl (dA 0, 24, .inl m15)), (c16, .inl (dA 0, 24, .inl m16)), (t0, .inr (6, [.int i0, .int i1, .ref c2, .ref c3, .ref c4, .ref c5, .ref c6, .int i7, .ref c8, .ref c9, .ref c10, .ref c11, .ref c12, .int i13, .ref c14, .ref c15, .ref c16])), (c14, .inl (dA 1, 24, .inr (.inl (vp_updL m14 (i13 : Int32).toNatClampNeg a0))))] := hD
      obtain ⟨f11, ef11⟩ : ∃ f : Nat → Int64, f = (vp_updL m14 (i13 : Int32).toNatClampNeg a0) := ⟨_, rfl⟩
      rw [← ef11] at hP hD
      refine lv_aload_n hx hb dX6_addPublic_27 rfl (lv_at hl 0 rfl) ?_
      refine g_get hx hb hg hown hK hP 2 rfl rfl inX6 15 (by decide) q438 rfl dX6_addPublic_28 ?_
      refine lv_aload_n hx hb dX6_addPublic_31 rfl (lv_at hl 0 rfl) ?_
      refine g_get hx hb hg hown hK hP 2 rfl rfl inX6 13 (by decide) q434 rfl dX6_addPublic_32 ?_
      refine lv_iload_n hx hb dX6_addPublic_35 rfl (lv_at hl 2 rfl) ?_
      refine va_iast hx hb hK hP hD hS 0 0 rfl rfl (by rw [vp_in_iff]; omega) dX6_addPublic_36 (fun H locs hP hD hS => ?_)
      have hP : va_P D vwC [(c15, .inl (dA 0, 24, .inl (upd m15 (i13 : Int32).toNatClampNeg a1))), (c16, .inl (dA 0, 24, .inl m16)), (t0, .inr (6, [.int i0, .int i1, .ref c2, .ref c3, .ref c4, .ref c5, .ref c6, .int i7, .ref c8, .ref c9, .ref c10, .ref c11, .ref c12, .int i13, .ref c14, .ref c15, .ref c16])), (c14, .inl (dA 1, 24, .inr (.inl f11)))] H := hP
      have hD : va_D A [(c15, .inl (dA 0, 24, .inl (upd m15 (i13 : Int32).toNatClampNeg a1))), (c16, .inl (dA 0, 24, .inl m16)), (t0, .inr (6, [.int i0, .int i1, .ref c2, .ref c3, .ref c4, .ref c5, .ref c6, .int i7, .ref c8, .ref c9, .ref c10, .ref c11, .ref c12, .int i13, .ref c14, .ref c15, .ref c16])), (c14, .inl (dA 1, 24, .inr (.inl f11)))] := hD
      obtain ⟨f12, ef12⟩ : ∃ f : Nat → Int32, f = (upd m15 (i13 : Int32).toNatClampNeg a1) := ⟨_, rfl⟩
      rw [← ef12] at hP hD
      refine lv_aload_n hx hb dX6_addPublic_37 rfl (lv_at hl 0 rfl) ?_
      refine g_get hx hb hg hown hK hP 2 rfl rfl inX6 16 (by decide) q440 rfl dX6_addPublic_38 ?_
      refine lv_aload_n hx hb dX6_addPublic_41 rfl (lv_at hl 0 rfl) ?_
      refine g_get hx hb hg hown hK hP 2 rfl rfl inX6 13 (by decide) q434 rfl dX6_addPublic_42 ?_
      refine lv_iload hx hb dX6_addPublic_45 (lv_at hl 3 rfl) ?_
      refine va_iast hx hb hK hP hD hS 1 0 rfl rfl (by rw [vp_in_iff]; omega) dX6_addPublic_47 (fun H locs hP hD hS => ?_)
      have hP : va_P D vwC [(c15, .inl (dA 0, 24, .inl f12)), (c16, .inl (dA 0, 24, .inl (upd m16 (i13 : Int32).toNatClampNeg a2))), (t0, .inr (6, [.int i0, .int i1, .ref c2, .ref c3, .ref c4, .ref c5, .ref c6, .int i7, .ref c8, .ref c9, .ref c10, .ref c11, .ref c12, .int i13, .ref c14, .ref c15, .ref c16])), (c14, .inl (dA 1, 24, .inr (.inl f11)))] H := hP
      have hD : va_D A [(c15, .inl (dA 0, 24, .inl f12)), (c16, .inl (dA 0, 24, .inl (upd m16 (i13 : Int32).toNatClampNeg a2))), (t0, .inr (6, [.int i0, .int i1, .ref c2, .ref c3, .ref c4, .ref c5, .ref c6, .int i7, .ref c8, .ref c9, .ref c10, .ref c11, .ref c12, .int i13, .ref c14, .ref c15, .ref c16])), (c14, .inl (dA 1, 24, .inr (.inl f11)))] := hD
      obtain ⟨f13, ef13⟩ : ∃ f : Nat → Int32, f = (upd m16 (i13 : Int32).toNatClampNeg a2) := ⟨_, rfl⟩
      rw [← ef13] at hP hD
      refine lv_aload_n hx hb dX6_addPublic_48 rfl (lv_at hl 0 rfl) ?_
      refine lv_dup hx hb dX6_addPublic_49 rfl ?_
      refine g_get hx hb hg hown hK hP 2 rfl rfl inX6 13 (by decide) q434 rfl dX6_addPublic_50 ?_
      refine lv_iconst (v := 1) hx hb dX6_addPublic_53 (by decide) ?_
      refine lv_iadd hx hb dX6_addPublic_54 ?_
      refine lv_topi (fun x14 e15 => ?_)
      have g16 : x14.toInt = i13.toInt + 1 := g_add e15 rfl (by decide) (by omega) (by omega)
      refine g_put (w' := [(c15, .inl (dA 0, 24, .inl f12)), (c16, .inl (dA 0, 24, .inl f13)), (t0, .inr (6, [.int i0, .int i1, .ref c2, .ref c3, .ref c4, .ref c5, .ref c6, .int i7, .ref c8, .ref c9, .ref c10, .ref c11, .ref c12, .int x14, .ref c14, .ref c15, .ref c16])), (c14, .inl (dA 1, 24, .inr (.inl f11)))]) hx hb hg hown hK hP hD hS 2 rfl rfl inX6 tyX6_ok nmX6 13 (by decide) q434 rfl rfl rfl (Nat.le_of_ble_eq_true rfl) rfl dX6_addPublic_55 (fun H locs hP hD hS => ?_)
      obtain ⟨hP, hD⟩ := g_cut (is := [2, 3, 0, 1]) (w' := [(t0, .inr (6, [.int i0, .int i1, .ref c2, .ref c3, .ref c4, .ref c5, .ref c6, .int i7, .ref c8, .ref c9, .ref c10, .ref c11, .ref c12, .int x14, .ref c14, .ref c15, .ref c16])), (c14, .inl (dA 1, 24, .inr (.inl f11))), (c15, .inl (dA 0, 24, .inl f12)), (c16, .inl (dA 0, 24, .inl f13))]) hP hD (by decide) rfl rfl
      exact g_vret hx hb hr hlocks hK (x14, f11, f12, f13) hP hD hS (show 0 ≤ x14.toInt ∧ x14.toInt ≤ 24 from by omega) (Nat.le_of_ble_eq_true rfl) (Nat.le_of_ble_eq_true rfl) dX6_addPublic_58
