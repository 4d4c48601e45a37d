theorem q53 : Cond.selects RX4 yX4_execute yX4_execute ∈ gw := gw_in (i := 53) (by decide +kernel) rfl
theorem q566 : Cond.fieldLink RX4 22 "SegmentBench$Machine" "halted" "Z" ∈ gw := gw_in (i := 566) (by decide +kernel) rfl
theorem q568 : Cond.fieldLink RX4 39 "SegmentBench$Machine" "done" "I" ∈ gw := gw_in (i := 568) (by decide +kernel) rfl
theorem q1401 : Cond.methodLink RX4 92 yX4_execute ∈ gw := gw_in (i := 1401) (by decide +kernel) rfl
theorem q1403 : Cond.instanceMethod yX4_execute ∈ gw := gw_in (i := 1403) (by decide +kernel) rfl
theorem q1404 : Cond.code yX4_execute cX4_execute 2 (some .int) ∈ gw := gw_in (i := 1404) (by decide +kernel) rfl
theorem dX4_go_0 : decode cX4_go 0 = .ok (.iconst 0, 1) := by decide +kernel
theorem dX4_go_1 : decode cX4_go 1 = .ok (.istore_n 2, 1) := by decide +kernel
theorem dX4_go_2 : decode cX4_go 2 = .ok (.iload_n 2, 1) := by decide +kernel
theorem dX4_go_3 : decode cX4_go 3 = .ok (.iload_n 1, 1) := by decide +kernel
theorem dX4_go_4 : decode cX4_go 4 = .ok (.if_icmp .ge 68, 3) := by decide +kernel
theorem dX4_go_7 : decode cX4_go 7 = .ok (.aload_n 0, 1) := by decide +kernel
theorem dX4_go_8 : decode cX4_go 8 = .ok (.getfield 26, 3) := by decide +kernel
theorem dX4_go_11 : decode cX4_go 11 = .ok (.istore_n 3, 1) := by decide +kernel
theorem dX4_go_12 : decode cX4_go 12 = .ok (.aload_n 0, 1) := by decide +kernel
theorem dX4_go_13 : decode cX4_go 13 = .ok (.aload_n 0, 1) := by decide +kernel
theorem dX4_go_14 : decode cX4_go 14 = .ok (.invokevirtual 88, 3) := by decide +kernel
theorem dX4_go_17 : decode cX4_go 17 = .ok (.invokevirtual 92, 3) := by decide +kernel
theorem dX4_go_20 : decode cX4_go 20 = .ok (.istore 4, 2) := by decide +kernel
theorem dX4_go_22 : decode cX4_go 22 = .ok (.iload 4, 2) := by decide +kernel
theorem dX4_go_24 : decode cX4_go 24 = .ok (.iconst 1, 1) := by decide +kernel
theorem dX4_go_25 : decode cX4_go 25 = .ok (.if_icmp .eq 9, 3) := by decide +kernel
theorem dX4_go_34 : decode cX4_go 34 = .ok (.aload_n 0, 1) := by decide +kernel
theorem dX4_go_35 : decode cX4_go 35 = .ok (.iload_n 3, 1) := by decide +kernel
theorem dX4_go_36 : decode cX4_go 36 = .ok (.putfield 26, 3) := by decide +kernel
theorem dX4_go_39 : decode cX4_go 39 = .ok (.goto 13, 3) := by decide +kernel
theorem dX4_go_52 : decode cX4_go 52 = .ok (.iload 4, 2) := by decide +kernel
theorem dX4_go_54 : decode cX4_go 54 = .ok (.iconst 3, 1) := by decide +kernel
theorem dX4_go_55 : decode cX4_go 55 = .ok (.if_icmp .eq 11, 3) := by decide +kernel
theorem dX4_go_58 : decode cX4_go 58 = .ok (.aload_n 0, 1) := by decide +kernel
theorem dX4_go_59 : decode cX4_go 59 = .ok (.iconst 1, 1) := by decide +kernel
theorem dX4_go_60 : decode cX4_go 60 = .ok (.putfield 22, 3) := by decide +kernel
theorem dX4_go_63 : decode cX4_go 63 = .ok (.iload 4, 2) := by decide +kernel
theorem dX4_go_65 : decode cX4_go 65 = .ok (.ireturn, 1) := by decide +kernel
theorem dX4_go_28 : decode cX4_go 28 = .ok (.iload 4, 2) := by decide +kernel
theorem dX4_go_30 : decode cX4_go 30 = .ok (.iconst 2, 1) := by decide +kernel
theorem dX4_go_31 : decode cX4_go 31 = .ok (.if_icmp .ne 11, 3) := by decide +kernel
theorem dX4_go_42 : decode cX4_go 42 = .ok (.aload_n 0, 1) := by decide +kernel
theorem dX4_go_43 : decode cX4_go 43 = .ok (.dup, 1) := by decide +kernel
theorem dX4_go_44 : decode cX4_go 44 = .ok (.getfield 39, 3) := by decide +kernel
theorem dX4_go_47 : decode cX4_go 47 = .ok (.iconst 1, 1) := by decide +kernel
theorem dX4_go_48 : decode cX4_go 48 = .ok (.iadd, 1) := by decide +kernel
theorem dX4_go_49 : decode cX4_go 49 = .ok (.putfield 39, 3) := by decide +kernel
theorem dX4_go_66 : decode cX4_go 66 = .ok (.iinc 2 1, 3) := by decide +kernel
theorem dX4_go_69 : decode cX4_go 69 = .ok (.goto (-67), 3) := by decide +kernel
theorem dX4_go_72 : decode cX4_go 72 = .ok (.iconst 3, 1) := by decide +kernel
theorem dX4_go_73 : decode cX4_go 73 = .ok (.ireturn, 1) := by decide +kernel
set_option maxHeartbeats 4000000 in
set_option maxRecDepth 100000 in
theorem s_X4_go_L2 {p : Program} {e : Env} {s : State} {m : MethodId} {args : Array Value} {below : List Frame} {meth : Method} {c : Code} {l : Launch} {D : va_G} {dA : Nat → ClassId} {A : Nat → Prop} (hx : p.tables.exec = Jvm.exec) (hb : c.code = cX4_go) (hr : meth.sig.returnType = (some .int)) (hml : c.maxLocals = 5) (hown : s.vm.findClass RX4 = some m.cls) (hg : ∀ w ∈ gw, w.before args s = true) (hlocks : meth.locks = false) (hA : ∀ q : Nat, s.heap.size ≤ q → A q) (hK : gK D dA s) {t0 : Nat} {a0 : Int32} {c0 : Nat} {c1 : Nat} {c2 : Nat} {i4 : Int32} {c3 : Nat} {i6 : Int32} (z0 : 1 ≤ a0.toInt ∧ a0.toInt ≤ 400) (z1 : 0 ≤ i4.toInt ∧ i4.toInt ≤ 1) (z2 : 0 ≤ i6.toInt ∧ i6.toInt ≤ 900000) : ∀ (n : Nat) (v2 : Int32) (h0_3 : Int32) (h0_4 : Int32) (h0_5 : Int32) (h0_6 : Int32) (h0_8 : Int32) (h0_9 : Int32) (h0_11 : Int32) (h0_12 : Int32) (h0_13 : Int32) (h1_f : Nat → Int32) (h2_f : Nat → Int32) (h3_f : Nat → Int32) (h4_f : Nat → Int32) , (0 ≤ v2.toInt ∧ v2.toInt ≤ 400) → (0 ≤ h0_9.toInt ∧ h0_9.toInt ≤ 1000000) → (0 ≤ h0_11.toInt ∧ h0_11.toInt ≤ 7) → (-1 ≤ h0_12.toInt ∧ h0_12.toInt ≤ 7) → (∀ j : Nat, 0 ≤ (h1_f j).toInt ∧ (h1_f j).toInt ≤ 255) → (i6.toInt ≤ h0_9.toInt ∧ h0_9.toInt ≤ i6.toInt + v2.toInt) → (v2.toInt ≤ a0.toInt) → (a0.toInt - v2.toInt).toNat < n → ∀ (H : Heap) (locs : List Loc) (ls : Array Slot), va_P D vwC [(t0, .inr (4, [.ref c0, .ref c1, .ref c2, .int h0_3, .int h0_4, .int h0_5, .int h0_6, .int i4, .int h0_8, .int h0_9, .ref c3, .int h0_11, .int h0_12, .int h0_13])), (c0, .inl (dA 0, 4096, .inl h1_f)), (c1, .inl (dA 0, 8, .inl h2_f)), (c2, .inl (dA 0, 4, .inl h3_f)), (c3, .inl (dA 0, 30, .inl h4_f))] H → va_D A [(t0, .inr (4, [.ref c0, .ref c1, .ref c2, .int h0_3, .int h0_4, .int h0_5, .int h0_6, .int i4, .int h0_8, .int h0_9, .ref c3, .int h0_11, .int h0_12, .int h0_13])), (c0, .inl (dA 0, 4096, .inl h1_f)), (c1, .inl (dA 0, 8, .inl h2_f)), (c2, .inl (dA 0, 4, .inl h3_f)), (c3, .inl (dA 0, 30, .inl h4_f))] → va_S A s.heap H locs → lv_has ls 5 [(2, .int v2), (0, .ref t0), (1, .int a0)] → W p l e (gR 6 0 0) s m args below meth c H locs 0 0 (MQ below (va_Qi (fun (r : Int32) (u : Int32 × Int32 × Int32 × Int32 × Int32 × Int32 × Int32 × Int32 × Int32 × Int32 × (Nat → Int32) × (Nat → Int32) × (Nat → Int32) × (Nat → Int32)) => (0 ≤ r.toInt ∧ r.toInt ≤ 3) ∧ (0 ≤ u.2.2.2.2.1.toInt ∧ u.2.2.2.2.1.toInt ≤ 1) ∧ (i6.toInt ≤ u.2.2.2.2.2.2.1.toInt ∧ u.2.2.2.2.2.2.1.toInt ≤ i6.toInt + 400) ∧ (0 ≤ u.2.2.2.2.2.2.2.1.toInt ∧ u.2.2.2.2.2.2.2.1.toInt ≤ 7) ∧ (-1 ≤ u.2.2.2.2.2.2.2.2.1.toInt ∧ u.2.2.2.2.2.2.2.2.1.toInt ≤ 7) ∧ (∀ j : Nat, 0 ≤ (u.2.2.2.2.2.2.2.2.2.2.1 j).toInt ∧ (u.2.2.2.2.2.2.2.2.2.2.1 j).toInt ≤ 255)) (gAt D dA A (fun u : Int32 × Int32 × Int32 × Int32 × Int32 × Int32 × Int32 × Int32 × Int32 × Int32 × (Nat → Int32) × (Nat → Int32) × (Nat → Int32) × (Nat → Int32) => [(t0, .inr (4, [.ref c0, .ref c1, .ref c2, .int u.1, .int u.2.1, .int u.2.2.1, .int u.2.2.2.1, .int u.2.2.2.2.1, .int u.2.2.2.2.2.1, .int u.2.2.2.2.2.2.1, .ref c3, .int u.2.2.2.2.2.2.2.1, .int u.2.2.2.2.2.2.2.2.1, .int u.2.2.2.2.2.2.2.2.2.1])), (c0, .inl (dA 0, 4096, .inl (u.2.2.2.2.2.2.2.2.2.2.1))), (c1, .inl (dA 0, 8, .inl (u.2.2.2.2.2.2.2.2.2.2.2.1))), (c2, .inl (dA 0, 4, .inl (u.2.2.2.2.2.2.2.2.2.2.2.2.1))), (c3, .inl (dA 0, 30, .inl (u.2.2.2.2.2.2.2.2.2.2.2.2.2)))])) A) args s 0 0 A) (F0 m 2 ls []) := by
  intro n
  induction n with
  | zero =>
    intro v2 h0_3 h0_4 h0_5 h0_6 h0_8 h0_9 h0_11 h0_12 h0_13 h1_f h2_f h3_f h4_f y0 y1 y2 y3 y4 y5 y6 hn
    exact absurd hn (Nat.not_lt_zero _)
  | succ n ih =>
    intro v2 h0_3 h0_4 h0_5 h0_6 h0_8 h0_9 h0_11 h0_12 h0_13 h1_f h2_f h3_f h4_f y0 y1 y2 y3 y4 y5 y6 hn H locs ls hP hD hS hl
    refine lv_iload_n hx hb dX4_go_2 rfl (lv_at hl 0 rfl) ?_
    refine lv_iload_n hx hb dX4_go_3 rfl (lv_at hl 2 rfl) ?_
    refine lv_icmp_ge (tgt := 72) hx hb dX4_go_4 (by decide) (fun k1 => ?_) (fun k1 => ?_)
    · have g2 : a0.toInt ≤ v2.toInt := gi_le (rfl : a0.toInt = a0.toInt) (rfl : v2.toInt = v2.toInt) k1
      refine lv_iconst (v := 3) hx hb dX4_go_72 (by decide) ?_
      exact g_iret hx hb hr rfl hlocks hK (h0_3, h0_4, h0_5, h0_6, i4, h0_8, h0_9, h0_11, h0_12, h0_13, h1_f, h2_f, h3_f, h4_f) hP hD hS ⟨(show 0 ≤ ((3 : Int32)).toInt ∧ ((3 : Int32)).toInt ≤ 3 from by decide), (show 0 ≤ i4.toInt ∧ i4.toInt ≤ 1 from by omega), (show i6.toInt ≤ h0_9.toInt ∧ h0_9.toInt ≤ i6.toInt + 400 from by omega), (show 0 ≤ h0_11.toInt ∧ h0_11.toInt ≤ 7 from by omega), (show -1 ≤ h0_12.toInt ∧ h0_12.toInt ≤ 7 from by omega), y4⟩ (Nat.le_of_ble_eq_true rfl) (Nat.le_of_ble_eq_true rfl) dX4_go_73
    · have g3 : a0.toInt > v2.toInt := gi_nle (rfl : a0.toInt = a0.toInt) (rfl : v2.toInt = v2.toInt) k1
      refine lv_aload_n hx hb dX4_go_7 rfl (lv_at hl 1 rfl) ?_
      refine g_get hx hb hg hown hK hP 0 rfl rfl inX4 3 (by decide) q558 rfl dX4_go_8 ?_
      refine lv_istore_n (lv' := [(3, .int h0_3), (2, .int v2), (0, .ref t0), (1, .int a0)]) hx hb dX4_go_11 rfl hl (by decide) rfl (fun ls hl => ?_)
      refine lv_aload_n hx hb dX4_go_12 rfl (lv_at hl 2 rfl) ?_
      refine lv_aload_n hx hb dX4_go_13 rfl (lv_at hl 2 rfl) ?_
      refine g_Vi (n := 0) (As := []) (rest := [.ref t0]) (wr := []) hx hb hml hg hown hK hP hD hS hA (s_X4_fetch l D dA t0 c0 c1 c2 h0_3 h0_4 h0_5 h0_6 i4 h0_8 h0_9 c3 h0_11 h0_12 h0_13 h1_f h2_f h3_f h4_f (by omega) (by omega) (by omega) (by omega) y4 _) [0, 1, 2, 3, 4] [] rfl (by decide) rfl (by decide) (by decide) 0 rfl rfl q1399 q159 q1396 q1398 q52 (by decide +kernel) ⟨(Nat.le_of_ble_eq_true rfl), (Nat.le_of_ble_eq_true rfl)⟩ rfl hl.1 rfl (Nat.le_of_ble_eq_true rfl) dX4_go_14 ⟨(Nat.le_of_ble_eq_true rfl), (Nat.le_of_ble_eq_true rfl)⟩ (fun x5 u4 H locs w6 hP hD hS => ?_)
      refine W.widen (k := 0) (n := 0) (Nat.le_of_ble_eq_true rfl) (Nat.le_of_ble_eq_true rfl) ?_
      obtain ⟨x7, rfl⟩ : ∃ z, z = u4 := ⟨_, rfl⟩
      have hP : va_P D vwC [(t0, .inr (4, [.ref c0, .ref c1, .ref c2, .int x7, .int h0_4, .int h0_5, .int h0_6, .int i4, .int h0_8, .int h0_9, .ref c3, .int h0_11, .int h0_12, .int h0_13])), (c0, .inl (dA 0, 4096, .inl h1_f)), (c1, .inl (dA 0, 8, .inl h2_f)), (c2, .inl (dA 0, 4, .inl h3_f)), (c3, .inl (dA 0, 30, .inl h4_f))] H := hP
      have hD : va_D A [(t0, .inr (4, [.ref c0, .ref c1, .ref c2, .int x7, .int h0_4, .int h0_5, .int h0_6, .int i4, .int h0_8, .int h0_9, .ref c3, .int h0_11, .int h0_12, .int h0_13])), (c0, .inl (dA 0, 4096, .inl h1_f)), (c1, .inl (dA 0, 8, .inl h2_f)), (c2, .inl (dA 0, 4, .inl h3_f)), (c3, .inl (dA 0, 30, .inl h4_f))] := hD
      have g8 := w6
      have g8 : 0 ≤ x5.toInt ∧ x5.toInt ≤ 255 := g8
      refine g_Vi (n := 1) (As := [.int x5]) (rest := []) (wr := []) hx hb hml hg hown hK hP hD hS hA (s_X4_execute l D dA t0 x5 c0 c1 c2 x7 h0_4 h0_5 h0_6 i4 h0_8 h0_9 c3 h0_11 h0_12 h0_13 h1_f h2_f h3_f h4_f (by omega) (by omega) (by omega) (by omega) (by omega) y4 _) [0, 1, 2, 3, 4] [] rfl (by decide) rfl (by decide) (by decide) 0 rfl rfl q1404 q159 q1401 q1403 q53 (by decide +kernel) ⟨(Nat.le_of_ble_eq_true rfl), (Nat.le_of_ble_eq_true rfl)⟩ rfl hl.1 rfl (Nat.le_of_ble_eq_true rfl) dX4_go_17 ⟨(Nat.le_of_ble_eq_true rfl), (Nat.le_of_ble_eq_true rfl)⟩ (fun x10 u9 H locs w11 hP hD hS => ?_)
      refine W.widen (k := 0) (n := 0) (Nat.le_of_ble_eq_true rfl) (Nat.le_of_ble_eq_true rfl) ?_
      obtain ⟨x12, x13, x14, x15, x16, x17, x18, x19, f20, f21, f22, f23⟩ := u9
      have hP : va_P D vwC [(t0, .inr (4, [.ref c0, .ref c1, .ref c2, .int x12, .int x13, .int x14, .int x15, .int i4, .int h0_8, .int x16, .ref c3, .int x17, .int x18, .int x19])), (c0, .inl (dA 0, 4096, .inl f20)), (c1, .inl (dA 0, 8, .inl f21)), (c2, .inl (dA 0, 4, .inl f22)), (c3, .inl (dA 0, 30, .inl f23))] H := hP
      have hD : va_D A [(t0, .inr (4, [.ref c0, .ref c1, .ref c2, .int x12, .int x13, .int x14, .int x15, .int i4, .int h0_8, .int x16, .ref c3, .int x17, .int x18, .int x19])), (c0, .inl (dA 0, 4096, .inl f20)), (c1, .inl (dA 0, 8, .inl f21)), (c2, .inl (dA 0, 4, .inl f22)), (c3, .inl (dA 0, 30, .inl f23))] := hD
      obtain ⟨g24, g25, g26, g27, g28⟩ := w11
      have g24 : 0 ≤ x10.toInt ∧ x10.toInt ≤ 3 := g24
      have g25 : h0_9.toInt ≤ x16.toInt ∧ x16.toInt ≤ h0_9.toInt + 1 := g25
      have g26 : 0 ≤ x17.toInt ∧ x17.toInt ≤ 7 := g26
      have g27 : -1 ≤ x18.toInt ∧ x18.toInt ≤ 7 := g27
      have g28 : ∀ j : Nat, 0 ≤ (f20 j).toInt ∧ (f20 j).toInt ≤ 255 := g28
      refine lv_istore (lv' := [(4, .int x10), (3, .int h0_3), (2, .int v2), (0, .ref t0), (1, .int a0)]) hx hb dX4_go_20 hl (by decide) rfl (fun ls hl => ?_)
      refine lv_iload hx hb dX4_go_22 (lv_at hl 0 rfl) ?_
      refine lv_iconst (v := 1) hx hb dX4_go_24 (by decide) ?_
      refine lv_icmp_eq (tgt := 34) hx hb dX4_go_25 (by decide) (fun k29 => ?_) (fun k29 => ?_)
      · have g30 : x10.toInt = 1 := gi_eq (rfl : x10.toInt = x10.toInt) (by decide : (1 : Int32).toInt = 1) k29
        refine lv_aload_n hx hb dX4_go_34 rfl (lv_at hl 3 rfl) ?_
        refine lv_iload_n hx hb dX4_go_35 rfl (lv_at hl 1 rfl) ?_
        refine g_put (w' := [(t0, .inr (4, [.ref c0, .ref c1, .ref c2, .int h0_3, .int x13, .int x14, .int x15, .int i4, .int h0_8, .int x16, .ref c3, .int x17, .int x18, .int x19])), (c0, .inl (dA 0, 4096, .inl f20)), (c1, .inl (dA 0, 8, .inl f21)), (c2, .inl (dA 0, 4, .inl f22)), (c3, .inl (dA 0, 30, .inl f23))]) hx hb hg hown hK hP hD hS 0 rfl rfl inX4 tyX4_ok nmX4 3 (by decide) q558 rfl rfl rfl (Nat.le_of_ble_eq_true rfl) rfl dX4_go_36 (fun H locs hP hD hS => ?_)
        refine lv_goto (tgt := 52) hx hb dX4_go_39 (by decide) ?_
        refine lv_iload hx hb dX4_go_52 (lv_at hl 0 rfl) ?_
        refine lv_iconst (v := 3) hx hb dX4_go_54 (by decide) ?_
        refine lv_icmp_eq (tgt := 66) hx hb dX4_go_55 (by decide) (fun k31 => ?_) (fun k31 => ?_)
        · have g32 : x10.toInt = 3 := gi_eq (rfl : x10.toInt = x10.toInt) (by decide : (3 : Int32).toInt = 3) k31
          exfalso; omega
        · have g33 : x10.toInt ≠ 3 := gi_neq (rfl : x10.toInt = x10.toInt) (by decide : (3 : Int32).toInt = 3) k31
          refine lv_aload_n hx hb dX4_go_58 rfl (lv_at hl 3 rfl) ?_
          refine lv_iconst (v := 1) hx hb dX4_go_59 (by decide) ?_
          refine g_put (w' := [(t0, .inr (4, [.ref c0, .ref c1, .ref c2, .int h0_3, .int x13, .int x14, .int x15, .int 1, .int h0_8, .int x16, .ref c3, .int x17, .int x18, .int x19])), (c0, .inl (dA 0, 4096, .inl f20)), (c1, .inl (dA 0, 8, .inl f21)), (c2, .inl (dA 0, 4, .inl f22)), (c3, .inl (dA 0, 30, .inl f23))]) hx hb hg hown hK hP hD hS 0 rfl rfl inX4 tyX4_ok nmX4 7 (by decide) q566 rfl rfl rfl (Nat.le_of_ble_eq_true rfl) rfl dX4_go_60 (fun H locs hP hD hS => ?_)
          refine lv_iload hx hb dX4_go_63 (lv_at hl 0 rfl) ?_
          exact g_iret hx hb hr rfl hlocks hK (h0_3, x13, x14, x15, 1, h0_8, x16, x17, x18, x19, f20, f21, f22, f23) hP hD hS ⟨(show 0 ≤ x10.toInt ∧ x10.toInt ≤ 3 from by omega), (show 0 ≤ ((1 : Int32)).toInt ∧ ((1 : Int32)).toInt ≤ 1 from by decide), (show i6.toInt ≤ x16.toInt ∧ x16.toInt ≤ i6.toInt + 400 from by omega), (show 0 ≤ x17.toInt ∧ x17.toInt ≤ 7 from by omega), (show -1 ≤ x18.toInt ∧ x18.toInt ≤ 7 from by omega), g28⟩ (Nat.le_of_ble_eq_true rfl) (Nat.le_of_ble_eq_true rfl) dX4_go_65
      · have g34 : x10.toInt ≠ 1 := gi_neq (rfl : x10.toInt = x10.toInt) (by decide : (1 : Int32).toInt = 1) k29
        refine lv_iload hx hb dX4_go_28 (lv_at hl 0 rfl) ?_
        refine lv_iconst (v := 2) hx hb dX4_go_30 (by decide) ?_
        refine lv_icmp_ne (tgt := 42) hx hb dX4_go_31 (by decide) (fun k35 => ?_) (fun k35 => ?_)
        · have g36 : x10.toInt ≠ 2 := gi_neq (rfl : x10.toInt = x10.toInt) (by decide : (2 : Int32).toInt = 2) k35
          refine lv_aload_n hx hb dX4_go_42 rfl (lv_at hl 3 rfl) ?_
          refine lv_dup hx hb dX4_go_43 rfl ?_
          refine g_get hx hb hg hown hK hP 0 rfl rfl inX4 8 (by decide) q568 rfl dX4_go_44 ?_
          refine lv_iconst (v := 1) hx hb dX4_go_47 (by decide) ?_
          refine lv_iadd hx hb dX4_go_48 ?_
          have g37 := g_i32 h0_8
          refine lv_topi (fun x38 e39 => ?_)
          refine g_put (w' := [(t0, .inr (4, [.ref c0, .ref c1, .ref c2, .int x12, .int x13, .int x14, .int x15, .int i4, .int x38, .int x16, .ref c3, .int x17, .int x18, .int x19])), (c0, .inl (dA 0, 4096, .inl f20)), (c1, .inl (dA 0, 8, .inl f21)), (c2, .inl (dA 0, 4, .inl f22)), (c3, .inl (dA 0, 30, .inl f23))]) hx hb hg hown hK hP hD hS 0 rfl rfl inX4 tyX4_ok nmX4 8 (by decide) q568 rfl rfl rfl (Nat.le_of_ble_eq_true rfl) rfl dX4_go_49 (fun H locs hP hD hS => ?_)
          refine lv_iload hx hb dX4_go_52 (lv_at hl 0 rfl) ?_
          refine lv_iconst (v := 3) hx hb dX4_go_54 (by decide) ?_
          refine lv_icmp_eq (tgt := 66) hx hb dX4_go_55 (by decide) (fun k40 => ?_) (fun k40 => ?_)
          · have g41 : x10.toInt = 3 := gi_eq (rfl : x10.toInt = x10.toInt) (by decide : (3 : Int32).toInt = 3) k40
            obtain ⟨x42, e43⟩ : ∃ y : Int32, y = v2 + 1 := ⟨_, rfl⟩
            have g44 : x42.toInt = v2.toInt + 1 := g_add e43 rfl (by decide) (by omega) (by omega)
            refine lv_iinc (v := x42) (lv' := [(2, .int x42), (4, .int x10), (3, .int h0_3), (0, .ref t0), (1, .int a0)]) hx hb dX4_go_66 hl (k := 2) rfl (by rw [e43]; rfl) (by decide) rfl (fun ls hl => ?_)
            refine lv_goto (tgt := 2) hx hb dX4_go_69 (by decide) ?_
            exact ih x42 x12 x13 x14 x15 x38 x16 x17 x18 x19 f20 f21 f22 f23 (by omega) (by omega) (by omega) (by omega) g28 (by omega) (by omega) (by omega) _ _ _ (hP.sub [0, 1, 2, 3, 4] rfl) (hD.sub [0, 1, 2, 3, 4] (by decide) rfl) hS (lv_sub hl [0, 3, 4] rfl)
          · have g45 : x10.toInt ≠ 3 := gi_neq (rfl : x10.toInt = x10.toInt) (by decide : (3 : Int32).toInt = 3) k40
            refine lv_aload_n hx hb dX4_go_58 rfl (lv_at hl 3 rfl) ?_
            refine lv_iconst (v := 1) hx hb dX4_go_59 (by decide) ?_
            refine g_put (w' := [(t0, .inr (4, [.ref c0, .ref c1, .ref c2, .int x12, .int x13, .int x14, .int x15, .int 1, .int x38, .int x16, .ref c3, .int x17, .int x18, .int x19])), (c0, .inl (dA 0, 4096, .inl f20)), (c1, .inl (dA 0, 8, .inl f21)), (c2, .inl (dA 0, 4, .inl f22)), (c3, .inl (dA 0, 30, .inl f23))]) hx hb hg hown hK hP hD hS 0 rfl rfl inX4 tyX4_ok nmX4 7 (by decide) q566 rfl rfl rfl (Nat.le_of_ble_eq_true rfl) rfl dX4_go_60 (fun H locs hP hD hS => ?_)
            refine lv_iload hx hb dX4_go_63 (lv_at hl 0 rfl) ?_
            exact g_iret hx hb hr rfl hlocks hK (x12, x13, x14, x15, 1, x38, x16, x17, x18, x19, f20, f21, f22, f23) hP hD hS ⟨(show 0 ≤ x10.toInt ∧ x10.toInt ≤ 3 from by omega), (show 0 ≤ ((1 : Int32)).toInt ∧ ((1 : Int32)).toInt ≤ 1 from by decide), (show i6.toInt ≤ x16.toInt ∧ x16.toInt ≤ i6.toInt + 400 from by omega), (show 0 ≤ x17.toInt ∧ x17.toInt ≤ 7 from by omega), (show -1 ≤ x18.toInt ∧ x18.toInt ≤ 7 from by omega), g28⟩ (Nat.le_of_ble_eq_true rfl) (Nat.le_of_ble_eq_true rfl) dX4_go_65
        · have g46 : x10.toInt = 2 := gi_eq (rfl : x10.toInt = x10.toInt) (by decide : (2 : Int32).toInt = 2) k35
          refine lv_aload_n hx hb dX4_go_34 rfl (lv_at hl 3 rfl) ?_
          refine lv_iload_n hx hb dX4_go_35 rfl (lv_at hl 1 rfl) ?_
          refine g_put (w' := [(t0, .inr (4, [.ref c0, .ref c1, .ref c2, .int h0_3, .int x13, .int x14, .int x15, .int i4, .int h0_8, .int x16, .ref c3, .int x17, .int x18, .int x19])), (c0, .inl (dA 0, 4096, .inl f20)), (c1, .inl (dA 0, 8, .inl f21)), (c2, .inl (dA 0, 4, .inl f22)), (c3, .inl (dA 0, 30, .inl f23))]) hx hb hg hown hK hP hD hS 0 rfl rfl inX4 tyX4_ok nmX4 3 (by decide) q558 rfl rfl rfl (Nat.le_of_ble_eq_true rfl) rfl dX4_go_36 (fun H locs hP hD hS => ?_)
          refine lv_goto (tgt := 52) hx hb dX4_go_39 (by decide) ?_
          refine lv_iload hx hb dX4_go_52 (lv_at hl 0 rfl) ?_
          refine lv_iconst (v := 3) hx hb dX4_go_54 (by decide) ?_
          refine lv_icmp_eq (tgt := 66) hx hb dX4_go_55 (by decide) (fun k47 => ?_) (fun k47 => ?_)
          · have g48 : x10.toInt = 3 := gi_eq (rfl : x10.toInt = x10.toInt) (by decide : (3 : Int32).toInt = 3) k47
            exfalso; omega
          · have g49 : x10.toInt ≠ 3 := gi_neq (rfl : x10.toInt = x10.toInt) (by decide : (3 : Int32).toInt = 3) k47
            refine lv_aload_n hx hb dX4_go_58 rfl (lv_at hl 3 rfl) ?_
            refine lv_iconst (v := 1) hx hb dX4_go_59 (by decide) ?_
            refine g_put (w' := [(t0, .inr (4, [.ref c0, .ref c1, .ref c2, .int h0_3, .int x13, .int x14, .int x15, .int 1, .int h0_8, .int x16, .ref c3, .int x17, .int x18, .int x19])), (c0, .inl (dA 0, 4096, .inl f20)), (c1, .inl (dA 0, 8, .inl f21)), (c2, .inl (dA 0, 4, .inl f22)), (c3, .inl (dA 0, 30, .inl f23))]) hx hb hg hown hK hP hD hS 0 rfl rfl inX4 tyX4_ok nmX4 7 (by decide) q566 rfl rfl rfl (Nat.le_of_ble_eq_true rfl) rfl dX4_go_60 (fun H locs hP hD hS => ?_)
            refine lv_iload hx hb dX4_go_63 (lv_at hl 0 rfl) ?_
            exact g_iret hx hb hr rfl hlocks hK (h0_3, x13, x14, x15, 1, h0_8, x16, x17, x18, x19, f20, f21, f22, f23) hP hD hS ⟨(show 0 ≤ x10.toInt ∧ x10.toInt ≤ 3 from by omega), (show 0 ≤ ((1 : Int32)).toInt ∧ ((1 : Int32)).toInt ≤ 1 from by decide), (show i6.toInt ≤ x16.toInt ∧ x16.toInt ≤ i6.toInt + 400 from by omega), (show 0 ≤ x17.toInt ∧ x17.toInt ≤ 7 from by omega), (show -1 ≤ x18.toInt ∧ x18.toInt ≤ 7 from by omega), g28⟩ (Nat.le_of_ble_eq_true rfl) (Nat.le_of_ble_eq_true rfl) dX4_go_65
set_option maxHeartbeats 4000000 in
set_option maxRecDepth 100000 in
theorem s_X4_go (l : Launch) (D : va_G) (dA : Nat → ClassId) (t0 : Nat) (a0 : Int32) (c0 : Nat) (c1 : Nat) (c2 : Nat) (i0 : Int32) (i1 : Int32) (i2 : Int32) (i3 : Int32) (i4 : Int32) (i5 : Int32) (i6 : Int32) (c3 : Nat) (i7 : Int32) (i8 : Int32) (i9 : Int32) (m0 : Nat → Int32) (m1 : Nat → Int32) (m2 : Nat → Int32) (m3 : Nat → Int32) (p0 : 1 ≤ a0.toInt ∧ a0.toInt ≤ 400) (p1 : 0 ≤ i4.toInt ∧ i4.toInt ≤ 1) (p2 : 0 ≤ i6.toInt ∧ i6.toInt ≤ 900000) (p3 : 0 ≤ i7.toInt ∧ i7.toInt ≤ 7) (p4 : -1 ≤ i8.toInt ∧ i8.toInt ≤ 7) (p5 : ∀ j : Nat, 0 ≤ (m0 j).toInt ∧ (m0 j).toInt ≤ 255) (sz : Nat) : Met l yX4_go (gws yX4_go cX4_go 5 (some .int)) (gR 6 0 0) (gPre D dA [.ref t0, .int a0] [(t0, .inr (4, [.ref c0, .ref c1, .ref c2, .int i0, .int i1, .int i2, .int i3, .int i4, .int i5, .int i6, .ref c3, .int i7, .int i8, .int i9])), (c0, .inl (dA 0, 4096, .inl m0)), (c1, .inl (dA 0, 8, .inl m1)), (c2, .inl (dA 0, 4, .inl m2)), (c3, .inl (dA 0, 30, .inl m3))] sz) (va_Qi (fun (r : Int32) (u : Int32 × Int32 × Int32 × Int32 × Int32 × Int32 × Int32 × Int32 × Int32 × Int32 × (Nat → Int32) × (Nat → Int32) × (Nat → Int32) × (Nat → Int32)) => (0 ≤ r.toInt ∧ r.toInt ≤ 3) ∧ (0 ≤ u.2.2.2.2.1.toInt ∧ u.2.2.2.2.1.toInt ≤ 1) ∧ (i6.toInt ≤ u.2.2.2.2.2.2.1.toInt ∧ u.2.2.2.2.2.2.1.toInt ≤ i6.toInt + 400) ∧ (0 ≤ u.2.2.2.2.2.2.2.1.toInt ∧ u.2.2.2.2.2.2.2.1.toInt ≤ 7) ∧ (-1 ≤ u.2.2.2.2.2.2.2.2.1.toInt ∧ u.2.2.2.2.2.2.2.2.1.toInt ≤ 7) ∧ (∀ j : Nat, 0 ≤ (u.2.2.2.2.2.2.2.2.2.2.1 j).toInt ∧ (u.2.2.2.2.2.2.2.2.2.2.1 j).toInt ≤ 255)) (gAt D dA (va_A [(t0, .inr (4, [.ref c0, .ref c1, .ref c2, .int i0, .int i1, .int i2, .int i3, .int i4, .int i5, .int i6, .ref c3, .int i7, .int i8, .int i9])), (c0, .inl (dA 0, 4096, .inl m0)), (c1, .inl (dA 0, 8, .inl m1)), (c2, .inl (dA 0, 4, .inl m2)), (c3, .inl (dA 0, 30, .inl m3))] sz) (fun u : Int32 × Int32 × Int32 × Int32 × Int32 × Int32 × Int32 × Int32 × Int32 × Int32 × (Nat → Int32) × (Nat → Int32) × (Nat → Int32) × (Nat → Int32) => [(t0, .inr (4, [.ref c0, .ref c1, .ref c2, .int u.1, .int u.2.1, .int u.2.2.1, .int u.2.2.2.1, .int u.2.2.2.2.1, .int u.2.2.2.2.2.1, .int u.2.2.2.2.2.2.1, .ref c3, .int u.2.2.2.2.2.2.2.1, .int u.2.2.2.2.2.2.2.2.1, .int u.2.2.2.2.2.2.2.2.2.1])), (c0, .inl (dA 0, 4096, .inl (u.2.2.2.2.2.2.2.2.2.2.1))), (c1, .inl (dA 0, 8, .inl (u.2.2.2.2.2.2.2.2.2.2.2.1))), (c2, .inl (dA 0, 4, .inl (u.2.2.2.2.2.2.2.2.2.2.2.2.1))), (c3, .inl (dA 0, 30, .inl (u.2.2.2.2.2.2.2.2.2.2.2.2.2)))])) (va_A [(t0, .inr (4, [.ref c0, .ref c1, .ref c2, .int i0, .int i1, .int i2, .int i3, .int i4, .int i5, .int i6, .ref c3, .int i7, .int i8, .int i9])), (c0, .inl (dA 0, 4096, .inl m0)), (c1, .inl (dA 0, 8, .inl m1)), (c2, .inl (dA 0, 4, .inl m2)), (c3, .inl (dA 0, 30, .inl m3))] sz)) 0 0 (va_A [(t0, .inr (4, [.ref c0, .ref c1, .ref c2, .int i0, .int i1, .int i2, .int i3, .int i4, .int i5, .int i6, .ref c3, .int i7, .int i8, .int i9])), (c0, .inl (dA 0, 4096, .inl m0)), (c1, .inl (dA 0, 8, .inl m1)), (c2, .inl (dA 0, 4, .inl m2)), (c3, .inl (dA 0, 30, .inl m3))] sz) := by
  refine Met.ofW (cc := cX4_go) (maxL := 5) (ret := (some .int)) (by decide) rfl ?_
  intro p e s m args below meth c s₁ B hml hv
  obtain ⟨rfl, hsz, hP, hK, hD0⟩ := hv
  have hx := B.exec
  have hb := B.bytes
  have hr := B.returns
  have hts := atoms_spec (ws := gws yX4_go cX4_go 5 (some .int)) B.pre
  have hg : ∀ w ∈ gw, w.before _ s = true := fun w h => hts w (List.mem_cons_of_mem _ h)
  have hown : s.vm.findClass RX4 = some m.cls := findClass_of_methodNamed B.named
  have hlocks := B.notSynchronized
  subst hsz
  have hD := hD0.self (sz := s.heap.size)
  generalize hAe : va_A [(t0, .inr (4, [.ref c0, .ref c1, .ref c2, .int i0, .int i1, .int i2, .int i3, .int i4, .int i5, .int i6, .ref c3, .int i7, .int i8, .int i9])), (c0, .inl (dA 0, 4096, .inl m0)), (c1, .inl (dA 0, 8, .inl m1)), (c2, .inl (dA 0, 4, .inl m2)), (c3, .inl (dA 0, 30, .inl m3))] s.heap.size = A at hD ⊢
  have hA : ∀ q : Nat, s.heap.size ≤ q → A q := fun q h => by rw [← hAe]; exact Or.inr h
  have hS : va_S A s.heap s.heap [] := va_S.rf
  have hP : va_P D vwC [(t0, .inr (4, [.ref c0, .ref c1, .ref c2, .int i0, .int i1, .int i2, .int i3, .int i4, .int i5, .int i6, .ref c3, .int i7, .int i8, .int i9])), (c0, .inl (dA 0, 4096, .inl m0)), (c1, .inl (dA 0, 8, .inl m1)), (c2, .inl (dA 0, 4, .inl m2)), (c3, .inl (dA 0, 30, .inl m3))] s.heap := hP
  have hl := lv_entry ([.ref t0, .int a0]) (n := 5) (Nat.le_of_ble_eq_true rfl)
  rw [lg_entry_eq]
  generalize (lg_sl ([.ref t0, .int a0]) ++ List.replicate (5 - (lg_sl ([.ref t0, .int a0])).length) Slot.unset).toArray = ls at hl ⊢
  have hl : lv_has ls 5 [(0, .ref t0), (1, .int a0)] := hl
  refine lv_iconst (v := 0) hx hb dX4_go_0 (by decide) ?_
  refine lv_istore_n (lv' := [(2, .int 0), (0, .ref t0), (1, .int a0)]) hx hb dX4_go_1 rfl hl (by decide) rfl (fun ls hl => ?_)
  exact s_X4_go_L2 hx hb hr hml hown hg hlocks hA hK (by have q_0 : (0 : Int32).toInt = 0 := (by decide); omega) (by have q_0 : (0 : Int32).toInt = 0 := (by decide); omega) (by have q_0 : (0 : Int32).toInt = 0 := (by decide); omega) _ 0 i0 i1 i2 i3 i5 i6 i7 i8 i9 m0 m1 m2 m3 (by have q_0 : (0 : Int32).toInt = 0 := (by decide); omega) (by have q_0 : (0 : Int32).toInt = 0 := (by decide); omega) (by have q_0 : (0 : Int32).toInt = 0 := (by decide); omega) (by have q_0 : (0 : Int32).toInt = 0 := (by decide); omega) p5 (by have q_0 : (0 : Int32).toInt = 0 := (by decide); omega) (by have q_0 : (0 : Int32).toInt = 0 := (by decide); omega) (Nat.lt_succ_self _) _ _ _ (hP.sub [0, 1, 2, 3, 4] rfl) (hD.sub [0, 1, 2, 3, 4] (by decide) rfl) hS (lv_sub hl [0, 1, 2] rfl)
