theorem q194 : Cond.fieldLink RX5 11 "SegmentBench$Names" "word" "[J" ∈ gw := gw_in (i := 194) (by decide +kernel) rfl
theorem q200 : Cond.fieldLink RX5 22 "SegmentBench$Names" "align" "[I" ∈ gw := gw_in (i := 200) (by decide +kernel) rfl
theorem q202 : Cond.fieldLink RX5 25 "SegmentBench$Names" "offset" "[I" ∈ gw := gw_in (i := 202) (by decide +kernel) rfl
theorem dX5_numberOf_0 : decode cX5_numberOf 0 = .ok (.iconst 0, 1) := by decide +kernel
theorem dX5_numberOf_1 : decode cX5_numberOf 1 = .ok (.istore 4, 2) := by decide +kernel
theorem dX5_numberOf_3 : decode cX5_numberOf 3 = .ok (.iload 4, 2) := by decide +kernel
theorem dX5_numberOf_5 : decode cX5_numberOf 5 = .ok (.aload_n 0, 1) := by decide +kernel
theorem dX5_numberOf_6 : decode cX5_numberOf 6 = .ok (.getfield 28, 3) := by decide +kernel
theorem dX5_numberOf_9 : decode cX5_numberOf 9 = .ok (.if_icmp .ge 24, 3) := by decide +kernel
theorem dX5_numberOf_33 : decode cX5_numberOf 33 = .ok (.aload_n 0, 1) := by decide +kernel
theorem dX5_numberOf_34 : decode cX5_numberOf 34 = .ok (.getfield 28, 3) := by decide +kernel
theorem dX5_numberOf_37 : decode cX5_numberOf 37 = .ok (.sipush 240, 3) := by decide +kernel
theorem dX5_numberOf_40 : decode cX5_numberOf 40 = .ok (.if_icmp .lt 7, 3) := by decide +kernel
theorem dX5_numberOf_47 : decode cX5_numberOf 47 = .ok (.aload_n 0, 1) := by decide +kernel
theorem dX5_numberOf_48 : decode cX5_numberOf 48 = .ok (.getfield 11, 3) := by decide +kernel
theorem dX5_numberOf_51 : decode cX5_numberOf 51 = .ok (.aload_n 0, 1) := by decide +kernel
theorem dX5_numberOf_52 : decode cX5_numberOf 52 = .ok (.getfield 28, 3) := by decide +kernel
theorem dX5_numberOf_55 : decode cX5_numberOf 55 = .ok (.lload_n 1, 1) := by decide +kernel
theorem dX5_numberOf_56 : decode cX5_numberOf 56 = .ok (.lastore, 1) := by decide +kernel
theorem dX5_numberOf_57 : decode cX5_numberOf 57 = .ok (.aload_n 0, 1) := by decide +kernel
theorem dX5_numberOf_58 : decode cX5_numberOf 58 = .ok (.getfield 15, 3) := by decide +kernel
theorem dX5_numberOf_61 : decode cX5_numberOf 61 = .ok (.aload_n 0, 1) := by decide +kernel
theorem dX5_numberOf_62 : decode cX5_numberOf 62 = .ok (.getfield 28, 3) := by decide +kernel
theorem dX5_numberOf_65 : decode cX5_numberOf 65 = .ok (.iconst 0, 1) := by decide +kernel
theorem dX5_numberOf_66 : decode cX5_numberOf 66 = .ok (.iastore, 1) := by decide +kernel
theorem dX5_numberOf_67 : decode cX5_numberOf 67 = .ok (.aload_n 0, 1) := by decide +kernel
theorem dX5_numberOf_68 : decode cX5_numberOf 68 = .ok (.getfield 19, 3) := by decide +kernel
theorem dX5_numberOf_71 : decode cX5_numberOf 71 = .ok (.aload_n 0, 1) := by decide +kernel
theorem dX5_numberOf_72 : decode cX5_numberOf 72 = .ok (.getfield 28, 3) := by decide +kernel
theorem dX5_numberOf_75 : decode cX5_numberOf 75 = .ok (.iconst (-1), 1) := by decide +kernel
theorem dX5_numberOf_76 : decode cX5_numberOf 76 = .ok (.iastore, 1) := by decide +kernel
theorem dX5_numberOf_77 : decode cX5_numberOf 77 = .ok (.aload_n 0, 1) := by decide +kernel
theorem dX5_numberOf_78 : decode cX5_numberOf 78 = .ok (.getfield 22, 3) := by decide +kernel
theorem dX5_numberOf_81 : decode cX5_numberOf 81 = .ok (.aload_n 0, 1) := by decide +kernel
theorem dX5_numberOf_82 : decode cX5_numberOf 82 = .ok (.getfield 28, 3) := by decide +kernel
theorem dX5_numberOf_85 : decode cX5_numberOf 85 = .ok (.iconst 0, 1) := by decide +kernel
theorem dX5_numberOf_86 : decode cX5_numberOf 86 = .ok (.iastore, 1) := by decide +kernel
theorem dX5_numberOf_87 : decode cX5_numberOf 87 = .ok (.aload_n 0, 1) := by decide +kernel
theorem dX5_numberOf_88 : decode cX5_numberOf 88 = .ok (.getfield 25, 3) := by decide +kernel
theorem dX5_numberOf_91 : decode cX5_numberOf 91 = .ok (.aload_n 0, 1) := by decide +kernel
theorem dX5_numberOf_92 : decode cX5_numberOf 92 = .ok (.getfield 28, 3) := by decide +kernel
theorem dX5_numberOf_95 : decode cX5_numberOf 95 = .ok (.iconst 0, 1) := by decide +kernel
theorem dX5_numberOf_96 : decode cX5_numberOf 96 = .ok (.iastore, 1) := by decide +kernel
theorem dX5_numberOf_97 : decode cX5_numberOf 97 = .ok (.aload_n 0, 1) := by decide +kernel
theorem dX5_numberOf_98 : decode cX5_numberOf 98 = .ok (.dup, 1) := by decide +kernel
theorem dX5_numberOf_99 : decode cX5_numberOf 99 = .ok (.getfield 28, 3) := by decide +kernel
theorem dX5_numberOf_102 : decode cX5_numberOf 102 = .ok (.iconst 1, 1) := by decide +kernel
theorem dX5_numberOf_103 : decode cX5_numberOf 103 = .ok (.iadd, 1) := by decide +kernel
theorem dX5_numberOf_104 : decode cX5_numberOf 104 = .ok (.putfield 28, 3) := by decide +kernel
theorem dX5_numberOf_107 : decode cX5_numberOf 107 = .ok (.aload_n 0, 1) := by decide +kernel
theorem dX5_numberOf_108 : decode cX5_numberOf 108 = .ok (.getfield 28, 3) := by decide +kernel
theorem dX5_numberOf_111 : decode cX5_numberOf 111 = .ok (.bipush 25, 2) := by decide +kernel
theorem dX5_numberOf_113 : decode cX5_numberOf 113 = .ok (.if_icmp .ne 8, 3) := by decide +kernel
theorem dX5_numberOf_121 : decode cX5_numberOf 121 = .ok (.aload_n 0, 1) := by decide +kernel
theorem dX5_numberOf_122 : decode cX5_numberOf 122 = .ok (.getfield 28, 3) := by decide +kernel
theorem dX5_numberOf_125 : decode cX5_numberOf 125 = .ok (.iconst 1, 1) := by decide +kernel
theorem dX5_numberOf_126 : decode cX5_numberOf 126 = .ok (.isub, 1) := by decide +kernel
theorem dX5_numberOf_127 : decode cX5_numberOf 127 = .ok (.ireturn, 1) := by decide +kernel
theorem dX5_numberOf_12 : decode cX5_numberOf 12 = .ok (.aload_n 0, 1) := by decide +kernel
theorem dX5_numberOf_13 : decode cX5_numberOf 13 = .ok (.getfield 11, 3) := by decide +kernel
theorem dX5_numberOf_16 : decode cX5_numberOf 16 = .ok (.iload 4, 2) := by decide +kernel
theorem dX5_numberOf_18 : decode cX5_numberOf 18 = .ok (.laload, 1) := by decide +kernel
theorem dX5_numberOf_19 : decode cX5_numberOf 19 = .ok (.lload_n 1, 1) := by decide +kernel
theorem dX5_numberOf_20 : decode cX5_numberOf 20 = .ok (.lcmp, 1) := by decide +kernel
theorem dX5_numberOf_21 : decode cX5_numberOf 21 = .ok (.ifCond .ne 6, 3) := by decide +kernel
theorem dX5_numberOf_27 : decode cX5_numberOf 27 = .ok (.iinc 4 1, 3) := by decide +kernel
theorem dX5_numberOf_30 : decode cX5_numberOf 30 = .ok (.goto (-27), 3) := by decide +kernel
theorem dX5_numberOf_24 : decode cX5_numberOf 24 = .ok (.iload 4, 2) := by decide +kernel
theorem dX5_numberOf_26 : decode cX5_numberOf 26 = .ok (.ireturn, 1) := by decide +kernel
theorem dX5_numberOf_116 : decode cX5_numberOf 116 = .ok (.aload_n 0, 1) := by decide +kernel
theorem dX5_numberOf_117 : decode cX5_numberOf 117 = .ok (.iload_n 3, 1) := by decide +kernel
theorem dX5_numberOf_118 : decode cX5_numberOf 118 = .ok (.putfield 32, 3) := by decide +kernel
theorem dX5_numberOf_43 : decode cX5_numberOf 43 = .ok (.sipush 239, 3) := by decide +kernel
theorem dX5_numberOf_46 : decode cX5_numberOf 46 = .ok (.ireturn, 1) := by decide +kernel
set_option maxHeartbeats 4000000 in
set_option maxRecDepth 100000 in
theorem s_X5_numberOf_L3 {p : Program} {e : Env} {s : State} {m : MethodId} {args : Array Value} {below : List Frame} {meth : Method} {c : Code} {l : Launch} {D : va_G} {dA : Nat → ClassId} {A : Nat → Prop} (hx : p.tables.exec = Jvm.exec) (hb : c.code = cX5_numberOf) (hr : meth.sig.returnType = (some .int)) (hml : c.maxLocals = 5) (hown : s.vm.findClass RX5 = some m.cls) (hg : ∀ w ∈ gw, w.before args s = true) (hlocks : meth.locks = false) (hA : ∀ q : Nat, s.heap.size ≤ q → A q) (hK : gK D dA s) {t0 : Nat} {a0 : Int64} {a1 : Int32} {c0 : Nat} {c1 : Nat} {c2 : Nat} {c3 : Nat} {c4 : Nat} {i5 : Int32} {i6 : Int32} {m0 : Nat → Int64} {m1 : Nat → Int32} {m2 : Nat → Int32} {m3 : Nat → Int32} {m4 : Nat → Int32} (z0 : 0 ≤ i5.toInt ∧ i5.toInt ≤ 240) : ∀ (n : Nat) (v4 : Int32) , (0 ≤ v4.toInt ∧ v4.toInt ≤ 240) → (i5.toInt - v4.toInt).toNat < n → ∀ (H : Heap) (locs : List Loc) (ls : Array Slot), va_P D vwC [(t0, .inr (5, [.ref c0, .ref c1, .ref c2, .ref c3, .ref c4, .int i5, .int i6])), (c0, .inl (dA 1, 240, .inr (.inl m0))), (c1, .inl (dA 0, 240, .inl m1)), (c2, .inl (dA 0, 240, .inl m2)), (c3, .inl (dA 0, 240, .inl m3)), (c4, .inl (dA 0, 240, .inl m4))] H → va_D A [(t0, .inr (5, [.ref c0, .ref c1, .ref c2, .ref c3, .ref c4, .int i5, .int i6])), (c0, .inl (dA 1, 240, .inr (.inl m0))), (c1, .inl (dA 0, 240, .inl m1)), (c2, .inl (dA 0, 240, .inl m2)), (c3, .inl (dA 0, 240, .inl m3)), (c4, .inl (dA 0, 240, .inl m4))] → va_S A s.heap H locs → lv_has ls 5 [(4, .int v4), (0, .ref t0), (1, .long a0), (3, .int a1)] → W p l e (gR 1 0 0) s m args below meth c H locs 0 0 (MQ below (va_Qi (fun (r : Int32) (u : Int32 × Int32 × (Nat → Int64) × (Nat → Int32) × (Nat → Int32) × (Nat → Int32) × (Nat → Int32)) => (0 ≤ r.toInt ∧ r.toInt ≤ 239) ∧ (0 ≤ u.1.toInt ∧ u.1.toInt ≤ 240)) (gAt D dA A (fun u : Int32 × Int32 × (Nat → Int64) × (Nat → Int32) × (Nat → Int32) × (Nat → Int32) × (Nat → Int32) => [(t0, .inr (5, [.ref c0, .ref c1, .ref c2, .ref c3, .ref c4, .int u.1, .int u.2.1])), (c0, .inl (dA 1, 240, .inr (.inl (u.2.2.1)))), (c1, .inl (dA 0, 240, .inl (u.2.2.2.1))), (c2, .inl (dA 0, 240, .inl (u.2.2.2.2.1))), (c3, .inl (dA 0, 240, .inl (u.2.2.2.2.2.1))), (c4, .inl (dA 0, 240, .inl (u.2.2.2.2.2.2)))])) A) args s 0 0 A) (F0 m 3 ls []) := by
  intro n
  induction n with
  | zero =>
    intro v4 y0 hn
    exact absurd hn (Nat.not_lt_zero _)
  | succ n ih =>
    intro v4 y0 hn H locs ls hP hD hS hl
    refine lv_iload hx hb dX5_numberOf_3 (lv_at hl 0 rfl) ?_
    refine lv_aload_n hx hb dX5_numberOf_5 rfl (lv_at hl 1 rfl) ?_
    refine g_get hx hb hg hown hK hP 0 rfl rfl inX5 5 (by decide) q204 rfl dX5_numberOf_6 ?_
    refine lv_icmp_ge (tgt := 33) hx hb dX5_numberOf_9 (by decide) (fun k1 => ?_) (fun k1 => ?_)
    · have g2 : i5.toInt ≤ v4.toInt := gi_le (rfl : i5.toInt = i5.toInt) (rfl : v4.toInt = v4.toInt) k1
      refine lv_aload_n hx hb dX5_numberOf_33 rfl (lv_at hl 1 rfl) ?_
      refine g_get hx hb hg hown hK hP 0 rfl rfl inX5 5 (by decide) q204 rfl dX5_numberOf_34 ?_
      refine lv_sipush (v := 240) hx hb dX5_numberOf_37 (by decide) ?_
      refine lv_icmp_lt (tgt := 47) hx hb dX5_numberOf_40 (by decide) (fun k3 => ?_) (fun k3 => ?_)
      · have g4 : i5.toInt < 240 := gi_lt (rfl : i5.toInt = i5.toInt) (by decide : (240 : Int32).toInt = 240) k3
        refine lv_aload_n hx hb dX5_numberOf_47 rfl (lv_at hl 1 rfl) ?_
        refine g_get hx hb hg hown hK hP 0 rfl rfl inX5 0 (by decide) q194 rfl dX5_numberOf_48 ?_
        refine lv_aload_n hx hb dX5_numberOf_51 rfl (lv_at hl 1 rfl) ?_
        refine g_get hx hb hg hown hK hP 0 rfl rfl inX5 5 (by decide) q204 rfl dX5_numberOf_52 ?_
        refine lv_lload_n hx hb dX5_numberOf_55 rfl (lv_at hl 2 rfl) ?_
        refine va_last hx hb hK hP hD hS 1 1 rfl rfl (by rw [vp_in_iff]; omega) dX5_numberOf_56 (fun H locs hP hD hS => ?_)
        have hP : va_P D vwC [(t0, .inr (5, [.ref c0, .ref c1, .ref c2, .ref c3, .ref c4, .int i5, .int i6])), (c0, .inl (dA 1, 240, .inr (.inl (vp_updL m0 (i5 : Int32).toNatClampNeg a0)))), (c1, .inl (dA 0, 240, .inl m1)), (c2, .inl (dA 0, 240, .inl m2)), (c3, .inl (dA 0, 240, .inl m3)), (c4, .inl (dA 0, 240, .inl m4))] H := hP
        have hD : va_D A [(t0, .inr (5, [.ref c0, .ref c1, .ref c2, .ref c3, .ref c4, .int i5, .int i6])), (c0, .inl (dA 1, 240, .inr (.inl (vp_updL m0 (i5 : Int32).toNatClampNeg a0)))), (c1, .inl (dA 0, 240, .inl m1)), (c2, .inl (dA 0, 240, .inl m2)), (c3, .inl (dA 0, 240, .inl m3)), (c4, .inl (dA 0, 240, .inl m4))] := hD
        obtain ⟨f5, ef5⟩ : ∃ f : Nat → Int64, f = (vp_updL m0 (i5 : Int32).toNatClampNeg a0) := ⟨_, rfl⟩
        rw [← ef5] at hP hD
        refine lv_aload_n hx hb dX5_numberOf_57 rfl (lv_at hl 1 rfl) ?_
        refine g_get hx hb hg hown hK hP 0 rfl rfl inX5 1 (by decide) q196 rfl dX5_numberOf_58 ?_
        refine lv_aload_n hx hb dX5_numberOf_61 rfl (lv_at hl 1 rfl) ?_
        refine g_get hx hb hg hown hK hP 0 rfl rfl inX5 5 (by decide) q204 rfl dX5_numberOf_62 ?_
        refine lv_iconst (v := 0) hx hb dX5_numberOf_65 (by decide) ?_
        refine va_iast hx hb hK hP hD hS 2 0 rfl rfl (by rw [vp_in_iff]; omega) dX5_numberOf_66 (fun H locs hP hD hS => ?_)
        have hP : va_P D vwC [(t0, .inr (5, [.ref c0, .ref c1, .ref c2, .ref c3, .ref c4, .int i5, .int i6])), (c0, .inl (dA 1, 240, .inr (.inl f5))), (c1, .inl (dA 0, 240, .inl (upd m1 (i5 : Int32).toNatClampNeg 0))), (c2, .inl (dA 0, 240, .inl m2)), (c3, .inl (dA 0, 240, .inl m3)), (c4, .inl (dA 0, 240, .inl m4))] H := hP
        have hD : va_D A [(t0, .inr (5, [.ref c0, .ref c1, .ref c2, .ref c3, .ref c4, .int i5, .int i6])), (c0, .inl (dA 1, 240, .inr (.inl f5))), (c1, .inl (dA 0, 240, .inl (upd m1 (i5 : Int32).toNatClampNeg 0))), (c2, .inl (dA 0, 240, .inl m2)), (c3, .inl (dA 0, 240, .inl m3)), (c4, .inl (dA 0, 240, .inl m4))] := hD
        obtain ⟨f6, ef6⟩ : ∃ f : Nat → Int32, f = (upd m1 (i5 : Int32).toNatClampNeg 0) := ⟨_, rfl⟩
        rw [← ef6] at hP hD
        refine lv_aload_n hx hb dX5_numberOf_67 rfl (lv_at hl 1 rfl) ?_
        refine g_get hx hb hg hown hK hP 0 rfl rfl inX5 2 (by decide) q198 rfl dX5_numberOf_68 ?_
        refine lv_aload_n hx hb dX5_numberOf_71 rfl (lv_at hl 1 rfl) ?_
        refine g_get hx hb hg hown hK hP 0 rfl rfl inX5 5 (by decide) q204 rfl dX5_numberOf_72 ?_
        refine lv_iconst (v := (-1)) hx hb dX5_numberOf_75 (by decide) ?_
        refine va_iast hx hb hK hP hD hS 3 0 rfl rfl (by rw [vp_in_iff]; omega) dX5_numberOf_76 (fun H locs hP hD hS => ?_)
        have hP : va_P D vwC [(t0, .inr (5, [.ref c0, .ref c1, .ref c2, .ref c3, .ref c4, .int i5, .int i6])), (c0, .inl (dA 1, 240, .inr (.inl f5))), (c1, .inl (dA 0, 240, .inl f6)), (c2, .inl (dA 0, 240, .inl (upd m2 (i5 : Int32).toNatClampNeg (-1)))), (c3, .inl (dA 0, 240, .inl m3)), (c4, .inl (dA 0, 240, .inl m4))] H := hP
        have hD : va_D A [(t0, .inr (5, [.ref c0, .ref c1, .ref c2, .ref c3, .ref c4, .int i5, .int i6])), (c0, .inl (dA 1, 240, .inr (.inl f5))), (c1, .inl (dA 0, 240, .inl f6)), (c2, .inl (dA 0, 240, .inl (upd m2 (i5 : Int32).toNatClampNeg (-1)))), (c3, .inl (dA 0, 240, .inl m3)), (c4, .inl (dA 0, 240, .inl m4))] := hD
        obtain ⟨f7, ef7⟩ : ∃ f : Nat → Int32, f = (upd m2 (i5 : Int32).toNatClampNeg (-1)) := ⟨_, rfl⟩
        rw [← ef7] at hP hD
        refine lv_aload_n hx hb dX5_numberOf_77 rfl (lv_at hl 1 rfl) ?_
        refine g_get hx hb hg hown hK hP 0 rfl rfl inX5 3 (by decide) q200 rfl dX5_numberOf_78 ?_
        refine lv_aload_n hx hb dX5_numberOf_81 rfl (lv_at hl 1 rfl) ?_
        refine g_get hx hb hg hown hK hP 0 rfl rfl inX5 5 (by decide) q204 rfl dX5_numberOf_82 ?_
        refine lv_iconst (v := 0) hx hb dX5_numberOf_85 (by decide) ?_
        refine va_iast hx hb hK hP hD hS 4 0 rfl rfl (by rw [vp_in_iff]; omega) dX5_numberOf_86 (fun H locs hP hD hS => ?_)
        have hP : va_P D vwC [(t0, .inr (5, [.ref c0, .ref c1, .ref c2, .ref c3, .ref c4, .int i5, .int i6])), (c0, .inl (dA 1, 240, .inr (.inl f5))), (c1, .inl (dA 0, 240, .inl f6)), (c2, .inl (dA 0, 240, .inl f7)), (c3, .inl (dA 0, 240, .inl (upd m3 (i5 : Int32).toNatClampNeg 0))), (c4, .inl (dA 0, 240, .inl m4))] H := hP
        have hD : va_D A [(t0, .inr (5, [.ref c0, .ref c1, .ref c2, .ref c3, .ref c4, .int i5, .int i6])), (c0, .inl (dA 1, 240, .inr (.inl f5))), (c1, .inl (dA 0, 240, .inl f6)), (c2, .inl (dA 0, 240, .inl f7)), (c3, .inl (dA 0, 240, .inl (upd m3 (i5 : Int32).toNatClampNeg 0))), (c4, .inl (dA 0, 240, .inl m4))] := hD
        obtain ⟨f8, ef8⟩ : ∃ f : Nat → Int32, f = (upd m3 (i5 : Int32).toNatClampNeg 0) := ⟨_, rfl⟩
        rw [← ef8] at hP hD
        refine lv_aload_n hx hb dX5_numberOf_87 rfl (lv_at hl 1 rfl) ?_
        refine g_get hx hb hg hown hK hP 0 rfl rfl inX5 4 (by decide) q202 rfl dX5_numberOf_88 ?_
        refine lv_aload_n hx hb dX5_numberOf_91 rfl (lv_at hl 1 rfl) ?_
        refine g_get hx hb hg hown hK hP 0 rfl rfl inX5 5 (by decide) q204 rfl dX5_numberOf_92 ?_
        refine lv_iconst (v := 0) hx hb dX5_numberOf_95 (by decide) ?_
        refine va_iast hx hb hK hP hD hS 5 0 rfl rfl (by rw [vp_in_iff]; omega) dX5_numberOf_96 (fun H locs hP hD hS => ?_)
        have hP : va_P D vwC [(t0, .inr (5, [.ref c0, .ref c1, .ref c2, .ref c3, .ref c4, .int i5, .int i6])), (c0, .inl (dA 1, 240, .inr (.inl f5))), (c1, .inl (dA 0, 240, .inl f6)), (c2, .inl (dA 0, 240, .inl f7)), (c3, .inl (dA 0, 240, .inl f8)), (c4, .inl (dA 0, 240, .inl (upd m4 (i5 : Int32).toNatClampNeg 0)))] H := hP
        have hD : va_D A [(t0, .inr (5, [.ref c0, .ref c1, .ref c2, .ref c3, .ref c4, .int i5, .int i6])), (c0, .inl (dA 1, 240, .inr (.inl f5))), (c1, .inl (dA 0, 240, .inl f6)), (c2, .inl (dA 0, 240, .inl f7)), (c3, .inl (dA 0, 240, .inl f8)), (c4, .inl (dA 0, 240, .inl (upd m4 (i5 : Int32).toNatClampNeg 0)))] := hD
        obtain ⟨f9, ef9⟩ : ∃ f : Nat → Int32, f = (upd m4 (i5 : Int32).toNatClampNeg 0) := ⟨_, rfl⟩
        rw [← ef9] at hP hD
        refine lv_aload_n hx hb dX5_numberOf_97 rfl (lv_at hl 1 rfl) ?_
        refine lv_dup hx hb dX5_numberOf_98 rfl ?_
        refine g_get hx hb hg hown hK hP 0 rfl rfl inX5 5 (by decide) q204 rfl dX5_numberOf_99 ?_
        refine lv_iconst (v := 1) hx hb dX5_numberOf_102 (by decide) ?_
        refine lv_iadd hx hb dX5_numberOf_103 ?_
        refine lv_topi (fun x10 e11 => ?_)
        have g12 : x10.toInt = i5.toInt + 1 := g_add e11 rfl (by decide) (by omega) (by omega)
        refine g_put (w' := [(t0, .inr (5, [.ref c0, .ref c1, .ref c2, .ref c3, .ref c4, .int x10, .int i6])), (c0, .inl (dA 1, 240, .inr (.inl f5))), (c1, .inl (dA 0, 240, .inl f6)), (c2, .inl (dA 0, 240, .inl f7)), (c3, .inl (dA 0, 240, .inl f8)), (c4, .inl (dA 0, 240, .inl f9))]) hx hb hg hown hK hP hD hS 0 rfl rfl inX5 tyX5_ok nmX5 5 (by decide) q204 rfl rfl rfl (Nat.le_of_ble_eq_true rfl) rfl dX5_numberOf_104 (fun H locs hP hD hS => ?_)
        refine lv_aload_n hx hb dX5_numberOf_107 rfl (lv_at hl 1 rfl) ?_
        refine g_get hx hb hg hown hK hP 0 rfl rfl inX5 5 (by decide) q204 rfl dX5_numberOf_108 ?_
        refine lv_bipush (v := 25) hx hb dX5_numberOf_111 (by decide) ?_
        refine lv_icmp_ne (tgt := 121) hx hb dX5_numberOf_113 (by decide) (fun k13 => ?_) (fun k13 => ?_)
        · have g14 : x10.toInt ≠ 25 := gi_neq (rfl : x10.toInt = x10.toInt) (by decide : (25 : Int32).toInt = 25) k13
          refine lv_aload_n hx hb dX5_numberOf_121 rfl (lv_at hl 1 rfl) ?_
          refine g_get hx hb hg hown hK hP 0 rfl rfl inX5 5 (by decide) q204 rfl dX5_numberOf_122 ?_
          refine lv_iconst (v := 1) hx hb dX5_numberOf_125 (by decide) ?_
          refine lv_isub hx hb dX5_numberOf_126 ?_
          refine lv_topi (fun x15 e16 => ?_)
          have g17 : x15.toInt = x10.toInt - 1 := g_sub e16 rfl (by decide) (by omega) (by omega)
          exact g_iret hx hb hr rfl hlocks hK (x10, i6, f5, f6, f7, f8, f9) hP hD hS ⟨(show 0 ≤ x15.toInt ∧ x15.toInt ≤ 239 from by omega), (show 0 ≤ x10.toInt ∧ x10.toInt ≤ 240 from by omega)⟩ (Nat.le_of_ble_eq_true rfl) (Nat.le_of_ble_eq_true rfl) dX5_numberOf_127
        · have g18 : x10.toInt = 25 := gi_eq (rfl : x10.toInt = x10.toInt) (by decide : (25 : Int32).toInt = 25) k13
          refine lv_aload_n hx hb dX5_numberOf_116 rfl (lv_at hl 1 rfl) ?_
          refine lv_iload_n hx hb dX5_numberOf_117 rfl (lv_at hl 3 rfl) ?_
          refine g_put (w' := [(t0, .inr (5, [.ref c0, .ref c1, .ref c2, .ref c3, .ref c4, .int x10, .int a1])), (c0, .inl (dA 1, 240, .inr (.inl f5))), (c1, .inl (dA 0, 240, .inl f6)), (c2, .inl (dA 0, 240, .inl f7)), (c3, .inl (dA 0, 240, .inl f8)), (c4, .inl (dA 0, 240, .inl f9))]) hx hb hg hown hK hP hD hS 0 rfl rfl inX5 tyX5_ok nmX5 6 (by decide) q205 rfl rfl rfl (Nat.le_of_ble_eq_true rfl) rfl dX5_numberOf_118 (fun H locs hP hD hS => ?_)
          refine lv_aload_n hx hb dX5_numberOf_121 rfl (lv_at hl 1 rfl) ?_
          refine g_get hx hb hg hown hK hP 0 rfl rfl inX5 5 (by decide) q204 rfl dX5_numberOf_122 ?_
          refine lv_iconst (v := 1) hx hb dX5_numberOf_125 (by decide) ?_
          refine lv_isub hx hb dX5_numberOf_126 ?_
          refine lv_topi (fun x19 e20 => ?_)
          have g21 : x19.toInt = x10.toInt - 1 := g_sub e20 rfl (by decide) (by omega) (by omega)
          exact g_iret hx hb hr rfl hlocks hK (x10, a1, f5, f6, f7, f8, f9) hP hD hS ⟨(show 0 ≤ x19.toInt ∧ x19.toInt ≤ 239 from by omega), (show 0 ≤ x10.toInt ∧ x10.toInt ≤ 240 from by omega)⟩ (Nat.le_of_ble_eq_true rfl) (Nat.le_of_ble_eq_true rfl) dX5_numberOf_127
      · have g22 : i5.toInt ≥ 240 := gi_nlt (rfl : i5.toInt = i5.toInt) (by decide : (240 : Int32).toInt = 240) k3
        refine lv_sipush (v := 239) hx hb dX5_numberOf_43 (by decide) ?_
        exact g_iret hx hb hr rfl hlocks hK (i5, i6, m0, m1, m2, m3, m4) hP hD hS ⟨(show 0 ≤ ((239 : Int32)).toInt ∧ ((239 : Int32)).toInt ≤ 239 from by decide), (show 0 ≤ i5.toInt ∧ i5.toInt ≤ 240 from by omega)⟩ (Nat.le_of_ble_eq_true rfl) (Nat.le_of_ble_eq_true rfl) dX5_numberOf_46
    · have g23 : i5.toInt > v4.toInt := gi_nle (rfl : i5.toInt = i5.toInt) (rfl : v4.toInt = v4.toInt) k1
      refine lv_aload_n hx hb dX5_numberOf_12 rfl (lv_at hl 1 rfl) ?_
      refine g_get hx hb hg hown hK hP 0 rfl rfl inX5 0 (by decide) q194 rfl dX5_numberOf_13 ?_
      refine lv_iload hx hb dX5_numberOf_16 (lv_at hl 0 rfl) ?_
      refine va_lald hx hb hK hP 1 1 rfl rfl (by rw [vp_in_iff]; omega) dX5_numberOf_18 ?_
      refine lv_topl (fun y24 y24e => ?_)
      refine lv_lload_n hx hb dX5_numberOf_19 rfl (lv_at hl 2 rfl) ?_
      refine W.lcmp hx hb dX5_numberOf_20 ?_
      refine lv_topi (fun x25 e26 => ?_)
      refine lv_if_ne (tgt := 27) hx hb dX5_numberOf_21 (by decide) (fun k27 => ?_) (fun k27 => ?_)
      · have g28 : x25.toInt ≠ 0 := gi_neq (rfl : x25.toInt = x25.toInt) (by decide : (0 : Int32).toInt = 0) k27
        obtain ⟨x29, e30⟩ : ∃ y : Int32, y = v4 + 1 := ⟨_, rfl⟩
        have g31 : x29.toInt = v4.toInt + 1 := g_add e30 rfl (by decide) (by omega) (by omega)
        refine lv_iinc (v := x29) (lv' := [(4, .int x29), (0, .ref t0), (1, .long a0), (3, .int a1)]) hx hb dX5_numberOf_27 hl (k := 0) rfl (by rw [e30]; rfl) (by decide) rfl (fun ls hl => ?_)
        refine lv_goto (tgt := 3) hx hb dX5_numberOf_30 (by decide) ?_
        exact ih x29 (by omega) (by omega) _ _ _ (hP.sub [0, 1, 2, 3, 4, 5] rfl) (hD.sub [0, 1, 2, 3, 4, 5] (by decide) rfl) hS (lv_sub hl [0, 1, 2, 3] rfl)
      · have g32 : x25.toInt = 0 := gi_eq (rfl : x25.toInt = x25.toInt) (by decide : (0 : Int32).toInt = 0) k27
        refine lv_iload hx hb dX5_numberOf_24 (lv_at hl 0 rfl) ?_
        exact g_iret hx hb hr rfl hlocks hK (i5, i6, m0, m1, m2, m3, m4) hP hD hS ⟨(show 0 ≤ v4.toInt ∧ v4.toInt ≤ 239 from by omega), (show 0 ≤ i5.toInt ∧ i5.toInt ≤ 240 from by omega)⟩ (Nat.le_of_ble_eq_true rfl) (Nat.le_of_ble_eq_true rfl) dX5_numberOf_26
set_option maxHeartbeats 4000000 in
set_option maxRecDepth 100000 in
theorem s_X5_numberOf (l : Launch) (D : va_G) (dA : Nat → ClassId) (t0 : Nat) (a0 : Int64) (a1 : Int32) (c0 : Nat) (c1 : Nat) (c2 : Nat) (c3 : Nat) (c4 : Nat) (i5 : Int32) (i6 : Int32) (m0 : Nat → Int64) (m1 : Nat → Int32) (m2 : Nat → Int32) (m3 : Nat → Int32) (m4 : Nat → Int32) (p0 : 0 ≤ i5.toInt ∧ i5.toInt ≤ 240) (sz : Nat) : Met l yX5_numberOf (gws yX5_numberOf cX5_numberOf 5 (some .int)) (gR 1 0 0) (gPre D dA [.ref t0, .long a0, .int a1] [(t0, .inr (5, [.ref c0, .ref c1, .ref c2, .ref c3, .ref c4, .int i5, .int i6])), (c0, .inl (dA 1, 240, .inr (.inl m0))), (c1, .inl (dA 0, 240, .inl m1)), (c2, .inl (dA 0, 240, .inl m2)), (c3, .inl (dA 0, 240, .inl m3)), (c4, .inl (dA 0, 240, .inl m4))] sz) (va_Qi (fun (r : Int32) (u : Int32 × Int32 × (Nat → Int64) × (Nat → Int32) × (Nat → Int32) × (Nat → Int32) × (Nat → Int32)) => (0 ≤ r.toInt ∧ r.toInt ≤ 239) ∧ (0 ≤ u.1.toInt ∧ u.1.toInt ≤ 240)) (gAt D dA (va_A [(t0, .inr (5, [.ref c0, .ref c1, .ref c2, .ref c3, .ref c4, .int i5, .int i6])), (c0, .inl (dA 1, 240, .inr (.inl m0))), (c1, .inl (dA 0, 240, .inl m1)), (c2, .inl (dA 0, 240, .inl m2)), (c3, .inl (dA 0, 240, .inl m3)), (c4, .inl (dA 0, 240, .inl m4))] sz) (fun u : Int32 × Int32 × (Nat → Int64) × (Nat → Int32) × (Nat → Int32) × (Nat → Int32) × (Nat → Int32) => [(t0, .inr (5, [.ref c0, .ref c1, .ref c2, .ref c3, .ref c4, .int u.1, .int u.2.1])), (c0, .inl (dA 1, 240, .inr (.inl (u.2.2.1)))), (c1, .inl (dA 0, 240, .inl (u.2.2.2.1))), (c2, .inl (dA 0, 240, .inl (u.2.2.2.2.1))), (c3, .inl (dA 0, 240, .inl (u.2.2.2.2.2.1))), (c4, .inl (dA 0, 240, .inl (u.2.2.2.2.2.2)))])) (va_A [(t0, .inr (5, [.ref c0, .ref c1, .ref c2, .ref c3, .ref c4, .int i5, .int i6])), (c0, .inl (dA 1, 240, .inr (.inl m0))), (c1, .inl (dA 0, 240, .inl m1)), (c2, .inl (dA 0, 240, .inl m2)), (c3, .inl (dA 0, 240, .inl m3)), (c4, .inl (dA 0, 240, .inl m4))] sz)) 0 0 (va_A [(t0, .inr (5, [.ref c0, .ref c1, .ref c2, .ref c3, .ref c4, .int i5, .int i6])), (c0, .inl (dA 1, 240, .inr (.inl m0))), (c1, .inl (dA 0, 240, .inl m1)), (c2, .inl (dA 0, 240, .inl m2)), (c3, .inl (dA 0, 240, .inl m3)), (c4, .inl (dA 0, 240, .inl m4))] sz) := by
  refine Met.ofW (cc := cX5_numberOf) (maxL := 5) (ret := (some .int)) (by decide) rfl ?_
  intro p e s m args below meth c s₁ B hml hv
  obtain ⟨rfl, hsz, hP, hK, hD0⟩ := hv
  have hx := B.exec
  have hb := B.bytes
  have hr := B.returns
  have hts := atoms_spec (ws := gws yX5_numberOf cX5_numberOf 5 (some .int)) B.pre
  have hg : ∀ w ∈ gw, w.before _ s = true := fun w h => hts w (List.mem_cons_of_mem _ h)
  have hown : s.vm.findClass RX5 = some m.cls := findClass_of_methodNamed B.named
  have hlocks := B.notSynchronized
  subst hsz
  have hD := hD0.self (sz := s.heap.size)
  generalize hAe : va_A [(t0, .inr (5, [.ref c0, .ref c1, .ref c2, .ref c3, .ref c4, .int i5, .int i6])), (c0, .inl (dA 1, 240, .inr (.inl m0))), (c1, .inl (dA 0, 240, .inl m1)), (c2, .inl (dA 0, 240, .inl m2)), (c3, .inl (dA 0, 240, .inl m3)), (c4, .inl (dA 0, 240, .inl m4))] s.heap.size = A at hD ⊢
  have hA : ∀ q : Nat, s.heap.size ≤ q → A q := fun q h => by rw [← hAe]; exact Or.inr h
  have hS : va_S A s.heap s.heap [] := va_S.rf
  have hP : va_P D vwC [(t0, .inr (5, [.ref c0, .ref c1, .ref c2, .ref c3, .ref c4, .int i5, .int i6])), (c0, .inl (dA 1, 240, .inr (.inl m0))), (c1, .inl (dA 0, 240, .inl m1)), (c2, .inl (dA 0, 240, .inl m2)), (c3, .inl (dA 0, 240, .inl m3)), (c4, .inl (dA 0, 240, .inl m4))] s.heap := hP
  have hl := lv_entry ([.ref t0, .long a0, .int a1]) (n := 5) (Nat.le_of_ble_eq_true rfl)
  rw [lg_entry_eq]
  generalize (lg_sl ([.ref t0, .long a0, .int a1]) ++ List.replicate (5 - (lg_sl ([.ref t0, .long a0, .int a1])).length) Slot.unset).toArray = ls at hl ⊢
  have hl : lv_has ls 5 [(0, .ref t0), (1, .long a0), (3, .int a1)] := hl
  refine lv_iconst (v := 0) hx hb dX5_numberOf_0 (by decide) ?_
  refine lv_istore (lv' := [(4, .int 0), (0, .ref t0), (1, .long a0), (3, .int a1)]) hx hb dX5_numberOf_1 hl (by decide) rfl (fun ls hl => ?_)
  exact s_X5_numberOf_L3 hx hb hr hml hown hg hlocks hA hK (by have q_0 : (0 : Int32).toInt = 0 := (by decide); omega) _ 0 (by have q_0 : (0 : Int32).toInt = 0 := (by decide); omega) (Nat.lt_succ_self _) _ _ _ (hP.sub [0, 1, 2, 3, 4, 5] rfl) (hD.sub [0, 1, 2, 3, 4, 5] (by decide) rfl) hS (lv_sub hl [0, 1, 2, 3] rfl)
