theorem q747 : Cond.methodLink RX10 97 yX10_byteOf ∈ gw := gw_in (i := 747) (by decide +kernel) rfl
theorem q748 : Cond.static yX10_byteOf ∈ gw := gw_in (i := 748) (by decide +kernel) rfl
theorem q749 : Cond.code yX10_byteOf cX10_byteOf 3 (some .int) ∈ gw := gw_in (i := 749) (by decide +kernel) rfl
theorem dX10_byteOf_0 : decode cX10_byteOf 0 = .ok (.lload_n 0, 1) := by decide +kernel
theorem dX10_byteOf_1 : decode cX10_byteOf 1 = .ok (.bipush 8, 2) := by decide +kernel
theorem dX10_byteOf_3 : decode cX10_byteOf 3 = .ok (.iload_n 2, 1) := by decide +kernel
theorem dX10_byteOf_4 : decode cX10_byteOf 4 = .ok (.imul, 1) := by decide +kernel
theorem dX10_byteOf_5 : decode cX10_byteOf 5 = .ok (.lushr, 1) := by decide +kernel
theorem dX10_byteOf_6 : decode cX10_byteOf 6 = .ok (.l2i, 1) := by decide +kernel
theorem dX10_byteOf_7 : decode cX10_byteOf 7 = .ok (.sipush 255, 3) := by decide +kernel
theorem dX10_byteOf_10 : decode cX10_byteOf 10 = .ok (.iand, 1) := by decide +kernel
theorem dX10_byteOf_11 : decode cX10_byteOf 11 = .ok (.ireturn, 1) := by decide +kernel
theorem dX10_append_0 : decode cX10_append 0 = .ok (.iload_n 3, 1) := by decide +kernel
theorem dX10_append_1 : decode cX10_append 1 = .ok (.iconst 1, 1) := by decide +kernel
theorem dX10_append_2 : decode cX10_append 2 = .ok (.if_icmp .lt 9, 3) := by decide +kernel
theorem dX10_append_11 : decode cX10_append 11 = .ok (.new 90, 3) := by decide +kernel
theorem dX10_append_14 : decode cX10_append 14 = .ok (.dup, 1) := by decide +kernel
theorem dX10_append_15 : decode cX10_append 15 = .ok (.ldc 92, 2) := by decide +kernel
theorem dX10_append_17 : decode cX10_append 17 = .ok (.invokespecial 94, 3) := by decide +kernel
theorem dX10_append_20 : decode cX10_append 20 = .ok (.athrow, 1) := by decide +kernel
theorem dX10_append_5 : decode cX10_append 5 = .ok (.iload_n 3, 1) := by decide +kernel
theorem dX10_append_6 : decode cX10_append 6 = .ok (.bipush 8, 2) := by decide +kernel
theorem dX10_append_8 : decode cX10_append 8 = .ok (.if_icmp .le 13, 3) := by decide +kernel
theorem dX10_append_21 : decode cX10_append 21 = .ok (.iconst 0, 1) := by decide +kernel
theorem dX10_append_22 : decode cX10_append 22 = .ok (.istore 4, 2) := by decide +kernel
theorem dX10_append_24 : decode cX10_append 24 = .ok (.iload 4, 2) := by decide +kernel
theorem dX10_append_26 : decode cX10_append 26 = .ok (.iload_n 3, 1) := by decide +kernel
theorem dX10_append_27 : decode cX10_append 27 = .ok (.if_icmp .ge 41, 3) := by decide +kernel
theorem dX10_append_30 : decode cX10_append 30 = .ok (.lload_n 1, 1) := by decide +kernel
theorem dX10_append_31 : decode cX10_append 31 = .ok (.iload 4, 2) := by decide +kernel
theorem dX10_append_33 : decode cX10_append 33 = .ok (.invokestatic 97, 3) := by decide +kernel
theorem dX10_append_36 : decode cX10_append 36 = .ok (.istore 5, 2) := by decide +kernel
theorem dX10_append_38 : decode cX10_append 38 = .ok (.iload 5, 2) := by decide +kernel
theorem dX10_append_40 : decode cX10_append 40 = .ok (.bipush 32, 2) := by decide +kernel
theorem dX10_append_42 : decode cX10_append 42 = .ok (.if_icmp .lt 10, 3) := by decide +kernel
theorem dX10_append_52 : decode cX10_append 52 = .ok (.new 90, 3) := by decide +kernel
theorem dX10_append_55 : decode cX10_append 55 = .ok (.dup, 1) := by decide +kernel
theorem dX10_append_56 : decode cX10_append 56 = .ok (.ldc 101, 2) := by decide +kernel
theorem dX10_append_58 : decode cX10_append 58 = .ok (.invokespecial 94, 3) := by decide +kernel
theorem dX10_append_61 : decode cX10_append 61 = .ok (.athrow, 1) := by decide +kernel
theorem dX10_append_45 : decode cX10_append 45 = .ok (.iload 5, 2) := by decide +kernel
theorem dX10_append_47 : decode cX10_append 47 = .ok (.bipush 126, 2) := by decide +kernel
theorem dX10_append_49 : decode cX10_append 49 = .ok (.if_icmp .le 13, 3) := by decide +kernel
theorem dX10_append_62 : decode cX10_append 62 = .ok (.iinc 4 1, 3) := by decide +kernel
theorem dX10_append_65 : decode cX10_append 65 = .ok (.goto (-41), 3) := by decide +kernel
theorem dX10_append_68 : decode cX10_append 68 = .ok (.aload_n 0, 1) := by decide +kernel
theorem dX10_append_69 : decode cX10_append 69 = .ok (.getfield 13, 3) := by decide +kernel
theorem dX10_append_72 : decode cX10_append 72 = .ok (.iload_n 3, 1) := by decide +kernel
theorem dX10_append_73 : decode cX10_append 73 = .ok (.iadd, 1) := by decide +kernel
theorem dX10_append_74 : decode cX10_append 74 = .ok (.sipush 480, 3) := by decide +kernel
theorem dX10_append_77 : decode cX10_append 77 = .ok (.if_icmp .le 13, 3) := by decide +kernel
theorem dX10_append_90 : decode cX10_append 90 = .ok (.iload_n 3, 1) := by decide +kernel
theorem dX10_append_91 : decode cX10_append 91 = .ok (.iconst 1, 1) := by decide +kernel
theorem dX10_append_92 : decode cX10_append 92 = .ok (.isub, 1) := by decide +kernel
theorem dX10_append_93 : decode cX10_append 93 = .ok (.istore 4, 2) := by decide +kernel
theorem dX10_append_95 : decode cX10_append 95 = .ok (.iload 4, 2) := by decide +kernel
theorem dX10_append_97 : decode cX10_append 97 = .ok (.ifCond .lt 35, 3) := by decide +kernel
theorem dX10_append_100 : decode cX10_append 100 = .ok (.aload_n 0, 1) := by decide +kernel
theorem dX10_append_101 : decode cX10_append 101 = .ok (.getfield 9, 3) := by decide +kernel
theorem dX10_append_104 : decode cX10_append 104 = .ok (.aload_n 0, 1) := by decide +kernel
theorem dX10_append_105 : decode cX10_append 105 = .ok (.getfield 13, 3) := by decide +kernel
theorem dX10_append_108 : decode cX10_append 108 = .ok (.lload_n 1, 1) := by decide +kernel
theorem dX10_append_109 : decode cX10_append 109 = .ok (.iload 4, 2) := by decide +kernel
theorem dX10_append_111 : decode cX10_append 111 = .ok (.invokestatic 97, 3) := by decide +kernel
theorem dX10_append_114 : decode cX10_append 114 = .ok (.i2c, 1) := by decide +kernel
theorem dX10_append_115 : decode cX10_append 115 = .ok (.castore, 1) := by decide +kernel
theorem dX10_append_116 : decode cX10_append 116 = .ok (.aload_n 0, 1) := by decide +kernel
theorem dX10_append_117 : decode cX10_append 117 = .ok (.dup, 1) := by decide +kernel
theorem dX10_append_118 : decode cX10_append 118 = .ok (.getfield 13, 3) := by decide +kernel
theorem dX10_append_121 : decode cX10_append 121 = .ok (.iconst 1, 1) := by decide +kernel
theorem dX10_append_122 : decode cX10_append 122 = .ok (.iadd, 1) := by decide +kernel
theorem dX10_append_123 : decode cX10_append 123 = .ok (.putfield 13, 3) := by decide +kernel
theorem dX10_append_126 : decode cX10_append 126 = .ok (.iinc 4 (-1), 3) := by decide +kernel
theorem dX10_append_129 : decode cX10_append 129 = .ok (.goto (-34), 3) := by decide +kernel
theorem dX10_append_132 : decode cX10_append 132 = .ok (.aload_n 0, 1) := by decide +kernel
theorem dX10_append_133 : decode cX10_append 133 = .ok (.getfield 13, 3) := by decide +kernel
theorem dX10_append_136 : decode cX10_append 136 = .ok (.ireturn, 1) := by decide +kernel
def bC (v : Int64) (i : Int32) : Int32 := ((v.toUInt64 >>> ((8 * i : Int32).toInt64.toUInt64 &&& Int64.toUInt64 63)).toInt64).toInt32 &&& 255
def apL (b : Int32 → Int32) : List Int32 → Prop
  | [] => True
  | i :: r => (¬ b i < 32 ∧ b i ≤ 126) ∧ apL b r
def apI (n : Int32) : List Int32 := if n = 1 then [0] else if n = 2 then [0, 1] else if n = 3 then [0, 1, 2] else if n = 4 then [0, 1, 2, 3] else if n = 5 then [0, 1, 2, 3, 4] else if n = 6 then [0, 1, 2, 3, 4, 5] else if n = 7 then [0, 1, 2, 3, 4, 5, 6] else if n = 8 then [0, 1, 2, 3, 4, 5, 6, 7] else []
theorem apI_1 : apI 1 = [0] := by decide
theorem apI_2 : apI 2 = [0, 1] := by decide
theorem apI_3 : apI 3 = [0, 1, 2] := by decide
theorem apI_4 : apI 4 = [0, 1, 2, 3] := by decide
theorem apI_5 : apI 5 = [0, 1, 2, 3, 4] := by decide
theorem apI_6 : apI 6 = [0, 1, 2, 3, 4, 5] := by decide
theorem apI_7 : apI 7 = [0, 1, 2, 3, 4, 5, 6] := by decide
theorem apI_8 : apI 8 = [0, 1, 2, 3, 4, 5, 6, 7] := by decide
set_option maxHeartbeats 4000000 in
set_option maxRecDepth 100000 in
theorem c_X10_byteOf (l : Launch) (D : va_G) (dA : Nat → ClassId) (v : Int64) (i : Int32) (sz : Nat) : Met l yX10_byteOf (gws yX10_byteOf cX10_byteOf 3 (some .int)) (gR 2 0 0) (gPre D dA [.long v, .int i] [] sz) (va_Qi (fun (r : Int32) (_ : Nat → Nat) => r = bC v i) (gAt D dA (va_A [] sz) (fun ad : Nat → Nat => [])) (va_A [] sz)) 0 0 (va_A [] sz) := by
  refine Met.ofW (cc := cX10_byteOf) (maxL := 3) (ret := (some .int)) (by decide) rfl ?_
  intro p e s m args below meth c s₁ B hml hv
  obtain ⟨rfl, hsz, hP, hK, hD0⟩ := hv
  have hx := B.exec
  have hb := B.bytes
  have hr := B.returns
  have hts := atoms_spec (ws := gws yX10_byteOf cX10_byteOf 3 (some .int)) B.pre
  have hg : ∀ w ∈ gw, w.before _ s = true := fun w h => hts w (List.mem_cons_of_mem _ h)
  have hown : s.vm.findClass RX10 = some m.cls := findClass_of_methodNamed B.named
  have hlocks := B.notSynchronized
  subst hsz
  have hD := hD0.self (sz := s.heap.size)
  generalize hAe : va_A [] s.heap.size = A at hD ⊢
  have hA : ∀ q : Nat, s.heap.size ≤ q → A q := fun q h => by rw [← hAe]; exact Or.inr h
  have hS : va_S A s.heap s.heap [] := va_S.rf
  have hP : va_P D vwC [] s.heap := hP
  have hl := lv_entry ([.long v, .int i]) (n := 3) (Nat.le_of_ble_eq_true rfl)
  rw [lg_entry_eq]
  generalize (lg_sl ([.long v, .int i]) ++ List.replicate (3 - (lg_sl ([.long v, .int i])).length) Slot.unset).toArray = ls at hl ⊢
  have hl : lv_has ls 3 [(0, .long v), (2, .int i)] := hl
  refine lv_lload_n hx hb dX10_byteOf_0 rfl (lv_at hl 0 rfl) ?_
  refine lv_bipush (v := 8) hx hb dX10_byteOf_1 (by decide) ?_
  refine lv_iload_n hx hb dX10_byteOf_3 rfl (lv_at hl 1 rfl) ?_
  refine lv_imul hx hb dX10_byteOf_4 ?_
  refine lv_lushr (v := ((v.toUInt64 >>> ((8 * i : Int32).toInt64.toUInt64 &&& Int64.toUInt64 63)).toInt64)) hx hb dX10_byteOf_5 rfl ?_
  refine lv_l2i (v := (((v.toUInt64 >>> ((8 * i : Int32).toInt64.toUInt64 &&& Int64.toUInt64 63)).toInt64).toInt32)) hx hb dX10_byteOf_6 rfl ?_
  refine lv_sipush (v := 255) hx hb dX10_byteOf_7 (by decide) ?_
  refine lv_iand hx hb dX10_byteOf_10 ?_
  obtain ⟨hP, hD⟩ := g_cut (is := []) (w' := []) hP hD (by decide) rfl rfl
  exact g_iret hx hb hr rfl hlocks hK (fun k => ([] : List Nat).getD k 0) hP hD hS rfl (Nat.le_of_ble_eq_true rfl) (Nat.le_of_ble_eq_true rfl) dX10_byteOf_11
set_option maxHeartbeats 4000000 in
set_option maxRecDepth 100000 in
theorem c_X10_append (l : Launch) (htr : l.stackTraces = false) (D : va_G) (dA : Nat → ClassId) (h0 : Nat) (ad : Nat → Nat) (v : Int64) (n : Int32) (sz : Nat) : vx_Met l yX10_append (gws yX10_append cX10_append 6 (some .int)) (gR 8 1 6) (gPreX D dA [.ref h0, .long v, .int n] [(h0, .inr (10, [.ref (ad 0), .int 0, .int (-1), .int (-1), .ref (ad 1), .ref (ad 2), .ref (ad 3), .ref (ad 4), .ref (ad 5), .ref (ad 6), .ref (ad 7), .ref (ad 8)])), (ad 0, .inl (dA 2, 480, .inl (fun _ => 0)))] sz) (va_Qi (fun (r : Int32) (_ : Unit) => r = n ∧ gIn 1 8 n ∧ apL (bC v) (apI n)) (gAt D dA (va_A [(h0, .inr (10, [.ref (ad 0), .int 0, .int (-1), .int (-1), .ref (ad 1), .ref (ad 2), .ref (ad 3), .ref (ad 4), .ref (ad 5), .ref (ad 6), .ref (ad 7), .ref (ad 8)])), (ad 0, .inl (dA 2, 480, .inl (fun _ => 0)))] sz) (fun _ : Unit => [])) (va_A [(h0, .inr (10, [.ref (ad 0), .int 0, .int (-1), .int (-1), .ref (ad 1), .ref (ad 2), .ref (ad 3), .ref (ad 4), .ref (ad 5), .ref (ad 6), .ref (ad 7), .ref (ad 8)])), (ad 0, .inl (dA 2, 480, .inl (fun _ => 0)))] sz)) (gX (fun E : String => E = xIAE ∧ ¬ (gIn 1 8 n ∧ apL (bC v) (apI n))) (va_A [(h0, .inr (10, [.ref (ad 0), .int 0, .int (-1), .int (-1), .ref (ad 1), .ref (ad 2), .ref (ad 3), .ref (ad 4), .ref (ad 5), .ref (ad 6), .ref (ad 7), .ref (ad 8)])), (ad 0, .inl (dA 2, 480, .inl (fun _ => 0)))] sz)) 1 6 (va_A [(h0, .inr (10, [.ref (ad 0), .int 0, .int (-1), .int (-1), .ref (ad 1), .ref (ad 2), .ref (ad 3), .ref (ad 4), .ref (ad 5), .ref (ad 6), .ref (ad 7), .ref (ad 8)])), (ad 0, .inl (dA 2, 480, .inl (fun _ => 0)))] sz) := by
  refine vx_ofW (cc := cX10_append) (maxL := 6) (ret := (some .int)) (by decide) rfl ?_
  intro p e s m args below meth c s₁ B hml hnt hv
  obtain ⟨rfl, hsz, hP, hK, hD0, hZ⟩ := hv
  have hx := B.exec
  have hb := B.bytes
  have hr := B.returns
  have hts := atoms_spec (ws := gws yX10_append cX10_append 6 (some .int)) B.pre
  have hg : ∀ w ∈ gw, w.before _ s = true := fun w h => hts w (List.mem_cons_of_mem _ h)
  have hown : s.vm.findClass RX10 = some m.cls := findClass_of_methodNamed B.named
  have hlocks := B.notSynchronized
  subst hsz
  have hD := hD0.self (sz := s.heap.size)
  generalize hAe : va_A [(h0, .inr (10, [.ref (ad 0), .int 0, .int (-1), .int (-1), .ref (ad 1), .ref (ad 2), .ref (ad 3), .ref (ad 4), .ref (ad 5), .ref (ad 6), .ref (ad 7), .ref (ad 8)])), (ad 0, .inl (dA 2, 480, .inl (fun _ => 0)))] s.heap.size = A at hZ hD ⊢
  have hA : ∀ q : Nat, s.heap.size ≤ q → A q := fun q h => by rw [← hAe]; exact Or.inr h
  have hS : va_S A s.heap s.heap [] := va_S.rf
  have hP : va_P D vwC [(h0, .inr (10, [.ref (ad 0), .int 0, .int (-1), .int (-1), .ref (ad 1), .ref (ad 2), .ref (ad 3), .ref (ad 4), .ref (ad 5), .ref (ad 6), .ref (ad 7), .ref (ad 8)])), (ad 0, .inl (dA 2, 480, .inl (fun _ => 0)))] s.heap := hP
  have hl := lv_entry ([.ref h0, .long v, .int n]) (n := 6) (Nat.le_of_ble_eq_true rfl)
  rw [lg_entry_eq]
  generalize (lg_sl ([.ref h0, .long v, .int n]) ++ List.replicate (6 - (lg_sl ([.ref h0, .long v, .int n])).length) Slot.unset).toArray = ls at hl ⊢
  have hl : lv_has ls 6 [(0, .ref h0), (1, .long v), (3, .int n)] := hl
  refine lv_iload_n hx hb dX10_append_0 rfl (lv_at hl 2 rfl) ?_
  refine lv_iconst (v := 1) hx hb dX10_append_1 (by decide) ?_
  refine lv_icmp_lt (tgt := 11) hx hb dX10_append_2 (by decide) (fun k1 => ?_) (fun k1 => ?_)
  · have bk1 := gb_lt_r (k := 1) (by decide) k1
    exact g_thr (cls := xIAE) (is := 92) (text := "n is not 1 .. 8") hx hb hg htr hown (by decide) q731 q167 (by decide +kernel) atIAE (by decide +kernel) hZ hS hml hl.1 hnt hlocks dX10_append_11 dX10_append_14 dX10_append_15 dX10_append_17 dX10_append_20 (Nat.le_of_ble_eq_true rfl) (Nat.le_of_ble_eq_true rfl) (Nat.le_of_ble_eq_true rfl) (Nat.le_of_ble_eq_true rfl) (Nat.le_of_ble_eq_true rfl) (Nat.le_of_ble_eq_true rfl) ⟨rfl, (fun h => absurd h.1 (by unfold gIn; omega))⟩
  · refine lv_iload_n hx hb dX10_append_5 rfl (lv_at hl 2 rfl) ?_
    refine lv_bipush (v := 8) hx hb dX10_append_6 (by decide) ?_
    refine lv_icmp_le (tgt := 21) hx hb dX10_append_8 (by decide) (fun k2 => ?_) (fun k2 => ?_)
    · have bk1 := gb_nlt_r (k := 1) (by decide) k1
      have bk2 := gb_le_r (k := 8) (by decide) k2
      rcases g_c1_8 (x := n) (by omega) (by omega) with rfl | rfl | rfl | rfl | rfl | rfl | rfl | rfl
      · refine lv_iconst (v := 0) hx hb dX10_append_21 (by decide) ?_
        refine lv_istore (lv' := [(4, .int 0), (0, .ref h0), (1, .long v), (3, .int 1)]) hx hb dX10_append_22 hl (by decide) rfl (fun ls hl => ?_)
        refine lv_iload hx hb dX10_append_24 (lv_at hl 0 rfl) ?_
        refine lv_iload_n hx hb dX10_append_26 rfl (lv_at hl 3 rfl) ?_
        refine lv_icmp_ge (tgt := 68) hx hb dX10_append_27 (by decide) (fun h => absurd h (by decide)) (fun _ => ?_)
        refine lv_lload_n hx hb dX10_append_30 rfl (lv_at hl 2 rfl) ?_
        refine lv_iload hx hb dX10_append_31 (lv_at hl 0 rfl) ?_
        refine g_Si (n := 2) (As := [.long v, .int 0]) (rest := []) (wr := [(h0, .inr (10, [.ref (ad 0), .int 0, .int (-1), .int (-1), .ref (ad 1), .ref (ad 2), .ref (ad 3), .ref (ad 4), .ref (ad 5), .ref (ad 6), .ref (ad 7), .ref (ad 8)])), (ad 0, .inl (dA 2, 480, .inl (fun _ => 0)))]) hx hb hml hg hown hK hP hD hS hA (c_X10_byteOf l D dA v 0 _) [] [0, 1] rfl (by decide) rfl (by decide) (by decide) q749 q149 q747 q748 (by decide +kernel) ⟨(Nat.le_of_ble_eq_true rfl), (Nat.le_of_ble_eq_true rfl)⟩ rfl hl.1 rfl (Nat.le_of_ble_eq_true rfl) dX10_append_33 ⟨(Nat.le_of_ble_eq_true rfl), (Nat.le_of_ble_eq_true rfl)⟩ (fun r4 u3 H locs w5 hP hD hS => ?_)
        refine W.widen (k := 0) (n := 0) (Nat.le_of_ble_eq_true rfl) (Nat.le_of_ble_eq_true rfl) ?_
        have hP : va_P D vwC [(h0, .inr (10, [.ref (ad 0), .int 0, .int (-1), .int (-1), .ref (ad 1), .ref (ad 2), .ref (ad 3), .ref (ad 4), .ref (ad 5), .ref (ad 6), .ref (ad 7), .ref (ad 8)])), (ad 0, .inl (dA 2, 480, .inl (fun _ => 0)))] H := hP
        have hD : va_D A [(h0, .inr (10, [.ref (ad 0), .int 0, .int (-1), .int (-1), .ref (ad 1), .ref (ad 2), .ref (ad 3), .ref (ad 4), .ref (ad 5), .ref (ad 6), .ref (ad 7), .ref (ad 8)])), (ad 0, .inl (dA 2, 480, .inl (fun _ => 0)))] := hD
        obtain rfl : r4 = bC v 0 := w5
        refine lv_istore (lv' := [(5, .int (bC v 0)), (4, .int 0), (0, .ref h0), (1, .long v), (3, .int 1)]) hx hb dX10_append_36 hl (by decide) rfl (fun ls hl => ?_)
        refine lv_iload hx hb dX10_append_38 (lv_at hl 0 rfl) ?_
        refine lv_bipush (v := 32) hx hb dX10_append_40 (by decide) ?_
        refine lv_icmp_lt (tgt := 52) hx hb dX10_append_42 (by decide) (fun k6 => ?_) (fun k6 => ?_)
        · exact g_thr (cls := xIAE) (is := 101) (text := "a byte is not 32 .. 126") hx hb hg htr hown (by decide) q731 q167 (by decide +kernel) atIAE (by decide +kernel) hZ hS hml hl.1 hnt hlocks dX10_append_52 dX10_append_55 dX10_append_56 dX10_append_58 dX10_append_61 (Nat.le_of_ble_eq_true rfl) (Nat.le_of_ble_eq_true rfl) (Nat.le_of_ble_eq_true rfl) (Nat.le_of_ble_eq_true rfl) (Nat.le_of_ble_eq_true rfl) (Nat.le_of_ble_eq_true rfl) ⟨rfl, (fun h => by have h := h.2; rw [apI_1] at h; exact h.1.1 k6)⟩
        · refine lv_iload hx hb dX10_append_45 (lv_at hl 0 rfl) ?_
          refine lv_bipush (v := 126) hx hb dX10_append_47 (by decide) ?_
          refine lv_icmp_le (tgt := 62) hx hb dX10_append_49 (by decide) (fun k7 => ?_) (fun k7 => ?_)
          · refine lv_iinc (v := 1) (lv' := [(4, .int 1), (5, .int (bC v 0)), (0, .ref h0), (1, .long v), (3, .int 1)]) hx hb dX10_append_62 hl (k := 1) rfl (by decide) (by decide) rfl (fun ls hl => ?_)
            refine lv_goto (tgt := 24) hx hb dX10_append_65 (by decide) ?_
            refine lv_iload hx hb dX10_append_24 (lv_at hl 0 rfl) ?_
            refine lv_iload_n hx hb dX10_append_26 rfl (lv_at hl 4 rfl) ?_
            refine lv_icmp_ge (tgt := 68) hx hb dX10_append_27 (by decide) (fun _ => ?_) (fun h => absurd (by decide) h)
            refine lv_aload_n hx hb dX10_append_68 rfl (lv_at hl 2 rfl) ?_
            refine g_get hx hb hg hown hK hP 0 rfl rfl inX10 1 (by decide) q607 rfl dX10_append_69 ?_
            refine lv_iload_n hx hb dX10_append_72 rfl (lv_at hl 4 rfl) ?_
            refine lv_iadd hx hb dX10_append_73 ?_
            refine g_nrm (y := 1) (by decide) ?_
            refine lv_sipush (v := 480) hx hb dX10_append_74 (by decide) ?_
            refine lv_icmp_le (tgt := 90) hx hb dX10_append_77 (by decide) (fun _ => ?_) (fun h => absurd (by decide) h)
            refine lv_iload_n hx hb dX10_append_90 rfl (lv_at hl 4 rfl) ?_
            refine lv_iconst (v := 1) hx hb dX10_append_91 (by decide) ?_
            refine lv_isub hx hb dX10_append_92 ?_
            refine g_nrm (y := 0) (by decide) ?_
            refine lv_istore (lv' := [(4, .int 0), (5, .int (bC v 0)), (0, .ref h0), (1, .long v), (3, .int 1)]) hx hb dX10_append_93 hl (by decide) rfl (fun ls hl => ?_)
            refine lv_iload hx hb dX10_append_95 (lv_at hl 0 rfl) ?_
            refine lv_if_lt (tgt := 132) hx hb dX10_append_97 (by decide) (fun h => absurd h (by decide)) (fun _ => ?_)
            refine lv_aload_n hx hb dX10_append_100 rfl (lv_at hl 2 rfl) ?_
            refine g_get hx hb hg hown hK hP 0 rfl rfl inX10 0 (by decide) q606 rfl dX10_append_101 ?_
            refine lv_aload_n hx hb dX10_append_104 rfl (lv_at hl 2 rfl) ?_
            refine g_get hx hb hg hown hK hP 0 rfl rfl inX10 1 (by decide) q607 rfl dX10_append_105 ?_
            refine lv_lload_n hx hb dX10_append_108 rfl (lv_at hl 3 rfl) ?_
            refine lv_iload hx hb dX10_append_109 (lv_at hl 0 rfl) ?_
            refine g_Si (n := 2) (As := [.long v, .int 0]) (rest := [.int 0, .ref (ad 0)]) (wr := [(h0, .inr (10, [.ref (ad 0), .int 0, .int (-1), .int (-1), .ref (ad 1), .ref (ad 2), .ref (ad 3), .ref (ad 4), .ref (ad 5), .ref (ad 6), .ref (ad 7), .ref (ad 8)])), (ad 0, .inl (dA 2, 480, .inl (fun _ => 0)))]) hx hb hml hg hown hK hP hD hS hA (c_X10_byteOf l D dA v 0 _) [] [0, 1] rfl (by decide) rfl (by decide) (by decide) q749 q149 q747 q748 (by decide +kernel) ⟨(Nat.le_of_ble_eq_true rfl), (Nat.le_of_ble_eq_true rfl)⟩ rfl hl.1 rfl (Nat.le_of_ble_eq_true rfl) dX10_append_111 ⟨(Nat.le_of_ble_eq_true rfl), (Nat.le_of_ble_eq_true rfl)⟩ (fun r9 u8 H locs w10 hP hD hS => ?_)
            refine W.widen (k := 0) (n := 0) (Nat.le_of_ble_eq_true rfl) (Nat.le_of_ble_eq_true rfl) ?_
            have hP : va_P D vwC [(h0, .inr (10, [.ref (ad 0), .int 0, .int (-1), .int (-1), .ref (ad 1), .ref (ad 2), .ref (ad 3), .ref (ad 4), .ref (ad 5), .ref (ad 6), .ref (ad 7), .ref (ad 8)])), (ad 0, .inl (dA 2, 480, .inl (fun _ => 0)))] H := hP
            have hD : va_D A [(h0, .inr (10, [.ref (ad 0), .int 0, .int (-1), .int (-1), .ref (ad 1), .ref (ad 2), .ref (ad 3), .ref (ad 4), .ref (ad 5), .ref (ad 6), .ref (ad 7), .ref (ad 8)])), (ad 0, .inl (dA 2, 480, .inl (fun _ => 0)))] := hD
            obtain rfl : r9 = bC v 0 := w10
            refine lv_i2c (v := (((bC v 0).toUInt32 % 65536).toInt32)) hx hb dX10_append_114 rfl ?_
            refine va_cast hx hb hK hP hD hS 1 2 rfl rfl (by unfold vp_in; decide) dX10_append_115 (fun H locs hP hD hS => ?_)
            have hP : va_P D vwC [(h0, .inr (10, [.ref (ad 0), .int 0, .int (-1), .int (-1), .ref (ad 1), .ref (ad 2), .ref (ad 3), .ref (ad 4), .ref (ad 5), .ref (ad 6), .ref (ad 7), .ref (ad 8)])), (ad 0, .inl (dA 2, 480, .inl (upd (fun _ => 0) (0 : Int32).toNatClampNeg (vp_nar .char (((bC v 0).toUInt32 % 65536).toInt32)))))] H := hP
            have hD : va_D A [(h0, .inr (10, [.ref (ad 0), .int 0, .int (-1), .int (-1), .ref (ad 1), .ref (ad 2), .ref (ad 3), .ref (ad 4), .ref (ad 5), .ref (ad 6), .ref (ad 7), .ref (ad 8)])), (ad 0, .inl (dA 2, 480, .inl (upd (fun _ => 0) (0 : Int32).toNatClampNeg (vp_nar .char (((bC v 0).toUInt32 % 65536).toInt32)))))] := hD
            generalize (upd (fun _ => 0) (0 : Int32).toNatClampNeg (vp_nar .char (((bC v 0).toUInt32 % 65536).toInt32))) = f11 at hP hD
            refine lv_aload_n hx hb dX10_append_116 rfl (lv_at hl 2 rfl) ?_
            refine lv_dup hx hb dX10_append_117 rfl ?_
            refine g_get hx hb hg hown hK hP 0 rfl rfl inX10 1 (by decide) q607 rfl dX10_append_118 ?_
            refine lv_iconst (v := 1) hx hb dX10_append_121 (by decide) ?_
            refine lv_iadd hx hb dX10_append_122 ?_
            refine g_nrm (y := 1) (by decide) ?_
            refine g_put (w' := [(h0, .inr (10, [.ref (ad 0), .int 1, .int (-1), .int (-1), .ref (ad 1), .ref (ad 2), .ref (ad 3), .ref (ad 4), .ref (ad 5), .ref (ad 6), .ref (ad 7), .ref (ad 8)])), (ad 0, .inl (dA 2, 480, .inl f11))]) hx hb hg hown hK hP hD hS 0 rfl rfl inX10 tyX10_ok nmX10 1 (by decide) q607 rfl rfl rfl (Nat.le_of_ble_eq_true rfl) rfl dX10_append_123 (fun H locs hP hD hS => ?_)
            refine lv_iinc (v := (-1)) (lv' := [(4, .int (-1)), (5, .int (bC v 0)), (0, .ref h0), (1, .long v), (3, .int 1)]) hx hb dX10_append_126 hl (k := 0) rfl (by decide) (by decide) rfl (fun ls hl => ?_)
            refine lv_goto (tgt := 95) hx hb dX10_append_129 (by decide) ?_
            refine lv_iload hx hb dX10_append_95 (lv_at hl 0 rfl) ?_
            refine lv_if_lt (tgt := 132) hx hb dX10_append_97 (by decide) (fun _ => ?_) (fun h => absurd (by decide) h)
            refine lv_aload_n hx hb dX10_append_132 rfl (lv_at hl 2 rfl) ?_
            refine g_get hx hb hg hown hK hP 0 rfl rfl inX10 1 (by decide) q607 rfl dX10_append_133 ?_
            exact vx_ret (g_iret hx hb hr rfl hlocks hK () (hP.sub [] rfl) (hD.sub [] rfl rfl) hS ⟨rfl, by unfold gIn; decide, by rw [apI_1]; exact ⟨⟨k6, k7⟩, trivial⟩⟩ (Nat.le_of_ble_eq_true rfl) (Nat.le_of_ble_eq_true rfl) dX10_append_136)
          · exact g_thr (cls := xIAE) (is := 101) (text := "a byte is not 32 .. 126") hx hb hg htr hown (by decide) q731 q167 (by decide +kernel) atIAE (by decide +kernel) hZ hS hml hl.1 hnt hlocks dX10_append_52 dX10_append_55 dX10_append_56 dX10_append_58 dX10_append_61 (Nat.le_of_ble_eq_true rfl) (Nat.le_of_ble_eq_true rfl) (Nat.le_of_ble_eq_true rfl) (Nat.le_of_ble_eq_true rfl) (Nat.le_of_ble_eq_true rfl) (Nat.le_of_ble_eq_true rfl) ⟨rfl, (fun h => by have h := h.2; rw [apI_1] at h; exact k7 h.1.2)⟩
      · refine lv_iconst (v := 0) hx hb dX10_append_21 (by decide) ?_
        refine lv_istore (lv' := [(4, .int 0), (0, .ref h0), (1, .long v), (3, .int 2)]) hx hb dX10_append_22 hl (by decide) rfl (fun ls hl => ?_)
        refine lv_iload hx hb dX10_append_24 (lv_at hl 0 rfl) ?_
        refine lv_iload_n hx hb dX10_append_26 rfl (lv_at hl 3 rfl) ?_
        refine lv_icmp_ge (tgt := 68) hx hb dX10_append_27 (by decide) (fun h => absurd h (by decide)) (fun _ => ?_)
        refine lv_lload_n hx hb dX10_append_30 rfl (lv_at hl 2 rfl) ?_
        refine lv_iload hx hb dX10_append_31 (lv_at hl 0 rfl) ?_
        refine g_Si (n := 2) (As := [.long v, .int 0]) (rest := []) (wr := [(h0, .inr (10, [.ref (ad 0), .int 0, .int (-1), .int (-1), .ref (ad 1), .ref (ad 2), .ref (ad 3), .ref (ad 4), .ref (ad 5), .ref (ad 6), .ref (ad 7), .ref (ad 8)])), (ad 0, .inl (dA 2, 480, .inl (fun _ => 0)))]) hx hb hml hg hown hK hP hD hS hA (c_X10_byteOf l D dA v 0 _) [] [0, 1] rfl (by decide) rfl (by decide) (by decide) q749 q149 q747 q748 (by decide +kernel) ⟨(Nat.le_of_ble_eq_true rfl), (Nat.le_of_ble_eq_true rfl)⟩ rfl hl.1 rfl (Nat.le_of_ble_eq_true rfl) dX10_append_33 ⟨(Nat.le_of_ble_eq_true rfl), (Nat.le_of_ble_eq_true rfl)⟩ (fun r13 u12 H locs w14 hP hD hS => ?_)
        refine W.widen (k := 0) (n := 0) (Nat.le_of_ble_eq_true rfl) (Nat.le_of_ble_eq_true rfl) ?_
        have hP : va_P D vwC [(h0, .inr (10, [.ref (ad 0), .int 0, .int (-1), .int (-1), .ref (ad 1), .ref (ad 2), .ref (ad 3), .ref (ad 4), .ref (ad 5), .ref (ad 6), .ref (ad 7), .ref (ad 8)])), (ad 0, .inl (dA 2, 480, .inl (fun _ => 0)))] H := hP
        have hD : va_D A [(h0, .inr (10, [.ref (ad 0), .int 0, .int (-1), .int (-1), .ref (ad 1), .ref (ad 2), .ref (ad 3), .ref (ad 4), .ref (ad 5), .ref (ad 6), .ref (ad 7), .ref (ad 8)])), (ad 0, .inl (dA 2, 480, .inl (fun _ => 0)))] := hD
        obtain rfl : r13 = bC v 0 := w14
        refine lv_istore (lv' := [(5, .int (bC v 0)), (4, .int 0), (0, .ref h0), (1, .long v), (3, .int 2)]) hx hb dX10_append_36 hl (by decide) rfl (fun ls hl => ?_)
        refine lv_iload hx hb dX10_append_38 (lv_at hl 0 rfl) ?_
        refine lv_bipush (v := 32) hx hb dX10_append_40 (by decide) ?_
        refine lv_icmp_lt (tgt := 52) hx hb dX10_append_42 (by decide) (fun k15 => ?_) (fun k15 => ?_)
        · exact g_thr (cls := xIAE) (is := 101) (text := "a byte is not 32 .. 126") hx hb hg htr hown (by decide) q731 q167 (by decide +kernel) atIAE (by decide +kernel) hZ hS hml hl.1 hnt hlocks dX10_append_52 dX10_append_55 dX10_append_56 dX10_append_58 dX10_append_61 (Nat.le_of_ble_eq_true rfl) (Nat.le_of_ble_eq_true rfl) (Nat.le_of_ble_eq_true rfl) (Nat.le_of_ble_eq_true rfl) (Nat.le_of_ble_eq_true rfl) (Nat.le_of_ble_eq_true rfl) ⟨rfl, (fun h => by have h := h.2; rw [apI_2] at h; exact h.1.1 k15)⟩
        · refine lv_iload hx hb dX10_append_45 (lv_at hl 0 rfl) ?_
          refine lv_bipush (v := 126) hx hb dX10_append_47 (by decide) ?_
          refine lv_icmp_le (tgt := 62) hx hb dX10_append_49 (by decide) (fun k16 => ?_) (fun k16 => ?_)
          · refine lv_iinc (v := 1) (lv' := [(4, .int 1), (5, .int (bC v 0)), (0, .ref h0), (1, .long v), (3, .int 2)]) hx hb dX10_append_62 hl (k := 1) rfl (by decide) (by decide) rfl (fun ls hl => ?_)
            refine lv_goto (tgt := 24) hx hb dX10_append_65 (by decide) ?_
            refine lv_iload hx hb dX10_append_24 (lv_at hl 0 rfl) ?_
            refine lv_iload_n hx hb dX10_append_26 rfl (lv_at hl 4 rfl) ?_
            refine lv_icmp_ge (tgt := 68) hx hb dX10_append_27 (by decide) (fun h => absurd h (by decide)) (fun _ => ?_)
            refine lv_lload_n hx hb dX10_append_30 rfl (lv_at hl 3 rfl) ?_
            refine lv_iload hx hb dX10_append_31 (lv_at hl 0 rfl) ?_
            refine g_Si (n := 2) (As := [.long v, .int 1]) (rest := []) (wr := [(h0, .inr (10, [.ref (ad 0), .int 0, .int (-1), .int (-1), .ref (ad 1), .ref (ad 2), .ref (ad 3), .ref (ad 4), .ref (ad 5), .ref (ad 6), .ref (ad 7), .ref (ad 8)])), (ad 0, .inl (dA 2, 480, .inl (fun _ => 0)))]) hx hb hml hg hown hK hP hD hS hA (c_X10_byteOf l D dA v 1 _) [] [0, 1] rfl (by decide) rfl (by decide) (by decide) q749 q149 q747 q748 (by decide +kernel) ⟨(Nat.le_of_ble_eq_true rfl), (Nat.le_of_ble_eq_true rfl)⟩ rfl hl.1 rfl (Nat.le_of_ble_eq_true rfl) dX10_append_33 ⟨(Nat.le_of_ble_eq_true rfl), (Nat.le_of_ble_eq_true rfl)⟩ (fun r18 u17 H locs w19 hP hD hS => ?_)
            refine W.widen (k := 0) (n := 0) (Nat.le_of_ble_eq_true rfl) (Nat.le_of_ble_eq_true rfl) ?_
            have hP : va_P D vwC [(h0, .inr (10, [.ref (ad 0), .int 0, .int (-1), .int (-1), .ref (ad 1), .ref (ad 2), .ref (ad 3), .ref (ad 4), .ref (ad 5), .ref (ad 6), .ref (ad 7), .ref (ad 8)])), (ad 0, .inl (dA 2, 480, .inl (fun _ => 0)))] H := hP
            have hD : va_D A [(h0, .inr (10, [.ref (ad 0), .int 0, .int (-1), .int (-1), .ref (ad 1), .ref (ad 2), .ref (ad 3), .ref (ad 4), .ref (ad 5), .ref (ad 6), .ref (ad 7), .ref (ad 8)])), (ad 0, .inl (dA 2, 480, .inl (fun _ => 0)))] := hD
            obtain rfl : r18 = bC v 1 := w19
            refine lv_istore (lv' := [(5, .int (bC v 1)), (4, .int 1), (0, .ref h0), (1, .long v), (3, .int 2)]) hx hb dX10_append_36 hl (by decide) rfl (fun ls hl => ?_)
            refine lv_iload hx hb dX10_append_38 (lv_at hl 0 rfl) ?_
            refine lv_bipush (v := 32) hx hb dX10_append_40 (by decide) ?_
            refine lv_icmp_lt (tgt := 52) hx hb dX10_append_42 (by decide) (fun k20 => ?_) (fun k20 => ?_)
            · exact g_thr (cls := xIAE) (is := 101) (text := "a byte is not 32 .. 126") hx hb hg htr hown (by decide) q731 q167 (by decide +kernel) atIAE (by decide +kernel) hZ hS hml hl.1 hnt hlocks dX10_append_52 dX10_append_55 dX10_append_56 dX10_append_58 dX10_append_61 (Nat.le_of_ble_eq_true rfl) (Nat.le_of_ble_eq_true rfl) (Nat.le_of_ble_eq_true rfl) (Nat.le_of_ble_eq_true rfl) (Nat.le_of_ble_eq_true rfl) (Nat.le_of_ble_eq_true rfl) ⟨rfl, (fun h => by have h := h.2; rw [apI_2] at h; exact h.2.1.1 k20)⟩
            · refine lv_iload hx hb dX10_append_45 (lv_at hl 0 rfl) ?_
              refine lv_bipush (v := 126) hx hb dX10_append_47 (by decide) ?_
              refine lv_icmp_le (tgt := 62) hx hb dX10_append_49 (by decide) (fun k21 => ?_) (fun k21 => ?_)
              · refine lv_iinc (v := 2) (lv' := [(4, .int 2), (5, .int (bC v 1)), (0, .ref h0), (1, .long v), (3, .int 2)]) hx hb dX10_append_62 hl (k := 1) rfl (by decide) (by decide) rfl (fun ls hl => ?_)
                refine lv_goto (tgt := 24) hx hb dX10_append_65 (by decide) ?_
                refine lv_iload hx hb dX10_append_24 (lv_at hl 0 rfl) ?_
                refine lv_iload_n hx hb dX10_append_26 rfl (lv_at hl 4 rfl) ?_
                refine lv_icmp_ge (tgt := 68) hx hb dX10_append_27 (by decide) (fun _ => ?_) (fun h => absurd (by decide) h)
                refine lv_aload_n hx hb dX10_append_68 rfl (lv_at hl 2 rfl) ?_
                refine g_get hx hb hg hown hK hP 0 rfl rfl inX10 1 (by decide) q607 rfl dX10_append_69 ?_
                refine lv_iload_n hx hb dX10_append_72 rfl (lv_at hl 4 rfl) ?_
                refine lv_iadd hx hb dX10_append_73 ?_
                refine g_nrm (y := 2) (by decide) ?_
                refine lv_sipush (v := 480) hx hb dX10_append_74 (by decide) ?_
                refine lv_icmp_le (tgt := 90) hx hb dX10_append_77 (by decide) (fun _ => ?_) (fun h => absurd (by decide) h)
                refine lv_iload_n hx hb dX10_append_90 rfl (lv_at hl 4 rfl) ?_
                refine lv_iconst (v := 1) hx hb dX10_append_91 (by decide) ?_
                refine lv_isub hx hb dX10_append_92 ?_
                refine g_nrm (y := 1) (by decide) ?_
                refine lv_istore (lv' := [(4, .int 1), (5, .int (bC v 1)), (0, .ref h0), (1, .long v), (3, .int 2)]) hx hb dX10_append_93 hl (by decide) rfl (fun ls hl => ?_)
                refine lv_iload hx hb dX10_append_95 (lv_at hl 0 rfl) ?_
                refine lv_if_lt (tgt := 132) hx hb dX10_append_97 (by decide) (fun h => absurd h (by decide)) (fun _ => ?_)
                refine lv_aload_n hx hb dX10_append_100 rfl (lv_at hl 2 rfl) ?_
                refine g_get hx hb hg hown hK hP 0 rfl rfl inX10 0 (by decide) q606 rfl dX10_append_101 ?_
                refine lv_aload_n hx hb dX10_append_104 rfl (lv_at hl 2 rfl) ?_
                refine g_get hx hb hg hown hK hP 0 rfl rfl inX10 1 (by decide) q607 rfl dX10_append_105 ?_
                refine lv_lload_n hx hb dX10_append_108 rfl (lv_at hl 3 rfl) ?_
                refine lv_iload hx hb dX10_append_109 (lv_at hl 0 rfl) ?_
                refine g_Si (n := 2) (As := [.long v, .int 1]) (rest := [.int 0, .ref (ad 0)]) (wr := [(h0, .inr (10, [.ref (ad 0), .int 0, .int (-1), .int (-1), .ref (ad 1), .ref (ad 2), .ref (ad 3), .ref (ad 4), .ref (ad 5), .ref (ad 6), .ref (ad 7), .ref (ad 8)])), (ad 0, .inl (dA 2, 480, .inl (fun _ => 0)))]) hx hb hml hg hown hK hP hD hS hA (c_X10_byteOf l D dA v 1 _) [] [0, 1] rfl (by decide) rfl (by decide) (by decide) q749 q149 q747 q748 (by decide +kernel) ⟨(Nat.le_of_ble_eq_true rfl), (Nat.le_of_ble_eq_true rfl)⟩ rfl hl.1 rfl (Nat.le_of_ble_eq_true rfl) dX10_append_111 ⟨(Nat.le_of_ble_eq_true rfl), (Nat.le_of_ble_eq_true rfl)⟩ (fun r23 u22 H locs w24 hP hD hS => ?_)
                refine W.widen (k := 0) (n := 0) (Nat.le_of_ble_eq_true rfl) (Nat.le_of_ble_eq_true rfl) ?_
                have hP : va_P D vwC [(h0, .inr (10, [.ref (ad 0), .int 0, .int (-1), .int (-1), .ref (ad 1), .ref (ad 2), .ref (ad 3), .ref (ad 4), .ref (ad 5), .ref (ad 6), .ref (ad 7), .ref (ad 8)])), (ad 0, .inl (dA 2, 480, .inl (fun _ => 0)))] H := hP
                have hD : va_D A [(h0, .inr (10, [.ref (ad 0), .int 0, .int (-1), .int (-1), .ref (ad 1), .ref (ad 2), .ref (ad 3), .ref (ad 4), .ref (ad 5), .ref (ad 6), .ref (ad 7), .ref (ad 8)])), (ad 0, .inl (dA 2, 480, .inl (fun _ => 0)))] := hD
                obtain rfl : r23 = bC v 1 := w24
                refine lv_i2c (v := (((bC v 1).toUInt32 % 65536).toInt32)) hx hb dX10_append_114 rfl ?_
                refine va_cast hx hb hK hP hD hS 1 2 rfl rfl (by unfold vp_in; decide) dX10_append_115 (fun H locs hP hD hS => ?_)
                have hP : va_P D vwC [(h0, .inr (10, [.ref (ad 0), .int 0, .int (-1), .int (-1), .ref (ad 1), .ref (ad 2), .ref (ad 3), .ref (ad 4), .ref (ad 5), .ref (ad 6), .ref (ad 7), .ref (ad 8)])), (ad 0, .inl (dA 2, 480, .inl (upd (fun _ => 0) (0 : Int32).toNatClampNeg (vp_nar .char (((bC v 1).toUInt32 % 65536).toInt32)))))] H := hP
                have hD : va_D A [(h0, .inr (10, [.ref (ad 0), .int 0, .int (-1), .int (-1), .ref (ad 1), .ref (ad 2), .ref (ad 3), .ref (ad 4), .ref (ad 5), .ref (ad 6), .ref (ad 7), .ref (ad 8)])), (ad 0, .inl (dA 2, 480, .inl (upd (fun _ => 0) (0 : Int32).toNatClampNeg (vp_nar .char (((bC v 1).toUInt32 % 65536).toInt32)))))] := hD
                generalize (upd (fun _ => 0) (0 : Int32).toNatClampNeg (vp_nar .char (((bC v 1).toUInt32 % 65536).toInt32))) = f25 at hP hD
                refine lv_aload_n hx hb dX10_append_116 rfl (lv_at hl 2 rfl) ?_
                refine lv_dup hx hb dX10_append_117 rfl ?_
                refine g_get hx hb hg hown hK hP 0 rfl rfl inX10 1 (by decide) q607 rfl dX10_append_118 ?_
                refine lv_iconst (v := 1) hx hb dX10_append_121 (by decide) ?_
                refine lv_iadd hx hb dX10_append_122 ?_
                refine g_nrm (y := 1) (by decide) ?_
                refine g_put (w' := [(h0, .inr (10, [.ref (ad 0), .int 1, .int (-1), .int (-1), .ref (ad 1), .ref (ad 2), .ref (ad 3), .ref (ad 4), .ref (ad 5), .ref (ad 6), .ref (ad 7), .ref (ad 8)])), (ad 0, .inl (dA 2, 480, .inl f25))]) hx hb hg hown hK hP hD hS 0 rfl rfl inX10 tyX10_ok nmX10 1 (by decide) q607 rfl rfl rfl (Nat.le_of_ble_eq_true rfl) rfl dX10_append_123 (fun H locs hP hD hS => ?_)
                refine lv_iinc (v := 0) (lv' := [(4, .int 0), (5, .int (bC v 1)), (0, .ref h0), (1, .long v), (3, .int 2)]) hx hb dX10_append_126 hl (k := 0) rfl (by decide) (by decide) rfl (fun ls hl => ?_)
                refine lv_goto (tgt := 95) hx hb dX10_append_129 (by decide) ?_
                refine lv_iload hx hb dX10_append_95 (lv_at hl 0 rfl) ?_
                refine lv_if_lt (tgt := 132) hx hb dX10_append_97 (by decide) (fun h => absurd h (by decide)) (fun _ => ?_)
                refine lv_aload_n hx hb dX10_append_100 rfl (lv_at hl 2 rfl) ?_
                refine g_get hx hb hg hown hK hP 0 rfl rfl inX10 0 (by decide) q606 rfl dX10_append_101 ?_
                refine lv_aload_n hx hb dX10_append_104 rfl (lv_at hl 2 rfl) ?_
                refine g_get hx hb hg hown hK hP 0 rfl rfl inX10 1 (by decide) q607 rfl dX10_append_105 ?_
                refine lv_lload_n hx hb dX10_append_108 rfl (lv_at hl 3 rfl) ?_
                refine lv_iload hx hb dX10_append_109 (lv_at hl 0 rfl) ?_
                refine g_Si (n := 2) (As := [.long v, .int 0]) (rest := [.int 1, .ref (ad 0)]) (wr := [(h0, .inr (10, [.ref (ad 0), .int 1, .int (-1), .int (-1), .ref (ad 1), .ref (ad 2), .ref (ad 3), .ref (ad 4), .ref (ad 5), .ref (ad 6), .ref (ad 7), .ref (ad 8)])), (ad 0, .inl (dA 2, 480, .inl f25))]) hx hb hml hg hown hK hP hD hS hA (c_X10_byteOf l D dA v 0 _) [] [0, 1] rfl (by decide) rfl (by decide) (by decide) q749 q149 q747 q748 (by decide +kernel) ⟨(Nat.le_of_ble_eq_true rfl), (Nat.le_of_ble_eq_true rfl)⟩ rfl hl.1 rfl (Nat.le_of_ble_eq_true rfl) dX10_append_111 ⟨(Nat.le_of_ble_eq_true rfl), (Nat.le_of_ble_eq_true rfl)⟩ (fun r27 u26 H locs w28 hP hD hS => ?_)
                refine W.widen (k := 0) (n := 0) (Nat.le_of_ble_eq_true rfl) (Nat.le_of_ble_eq_true rfl) ?_
                have hP : va_P D vwC [(h0, .inr (10, [.ref (ad 0), .int 1, .int (-1), .int (-1), .ref (ad 1), .ref (ad 2), .ref (ad 3), .ref (ad 4), .ref (ad 5), .ref (ad 6), .ref (ad 7), .ref (ad 8)])), (ad 0, .inl (dA 2, 480, .inl f25))] H := hP
                have hD : va_D A [(h0, .inr (10, [.ref (ad 0), .int 1, .int (-1), .int (-1), .ref (ad 1), .ref (ad 2), .ref (ad 3), .ref (ad 4), .ref (ad 5), .ref (ad 6), .ref (ad 7), .ref (ad 8)])), (ad 0, .inl (dA 2, 480, .inl f25))] := hD
                obtain rfl : r27 = bC v 0 := w28
                refine lv_i2c (v := (((bC v 0).toUInt32 % 65536).toInt32)) hx hb dX10_append_114 rfl ?_
                refine va_cast hx hb hK hP hD hS 1 2 rfl rfl (by unfold vp_in; decide) dX10_append_115 (fun H locs hP hD hS => ?_)
                have hP : va_P D vwC [(h0, .inr (10, [.ref (ad 0), .int 1, .int (-1), .int (-1), .ref (ad 1), .ref (ad 2), .ref (ad 3), .ref (ad 4), .ref (ad 5), .ref (ad 6), .ref (ad 7), .ref (ad 8)])), (ad 0, .inl (dA 2, 480, .inl (upd f25 (1 : Int32).toNatClampNeg (vp_nar .char (((bC v 0).toUInt32 % 65536).toInt32)))))] H := hP
                have hD : va_D A [(h0, .inr (10, [.ref (ad 0), .int 1, .int (-1), .int (-1), .ref (ad 1), .ref (ad 2), .ref (ad 3), .ref (ad 4), .ref (ad 5), .ref (ad 6), .ref (ad 7), .ref (ad 8)])), (ad 0, .inl (dA 2, 480, .inl (upd f25 (1 : Int32).toNatClampNeg (vp_nar .char (((bC v 0).toUInt32 % 65536).toInt32)))))] := hD
                generalize (upd f25 (1 : Int32).toNatClampNeg (vp_nar .char (((bC v 0).toUInt32 % 65536).toInt32))) = f29 at hP hD
                refine lv_aload_n hx hb dX10_append_116 rfl (lv_at hl 2 rfl) ?_
                refine lv_dup hx hb dX10_append_117 rfl ?_
                refine g_get hx hb hg hown hK hP 0 rfl rfl inX10 1 (by decide) q607 rfl dX10_append_118 ?_
                refine lv_iconst (v := 1) hx hb dX10_append_121 (by decide) ?_
                refine lv_iadd hx hb dX10_append_122 ?_
                refine g_nrm (y := 2) (by decide) ?_
                refine g_put (w' := [(h0, .inr (10, [.ref (ad 0), .int 2, .int (-1), .int (-1), .ref (ad 1), .ref (ad 2), .ref (ad 3), .ref (ad 4), .ref (ad 5), .ref (ad 6), .ref (ad 7), .ref (ad 8)])), (ad 0, .inl (dA 2, 480, .inl f29))]) hx hb hg hown hK hP hD hS 0 rfl rfl inX10 tyX10_ok nmX10 1 (by decide) q607 rfl rfl rfl (Nat.le_of_ble_eq_true rfl) rfl dX10_append_123 (fun H locs hP hD hS => ?_)
                refine lv_iinc (v := (-1)) (lv' := [(4, .int (-1)), (5, .int (bC v 1)), (0, .ref h0), (1, .long v), (3, .int 2)]) hx hb dX10_append_126 hl (k := 0) rfl (by decide) (by decide) rfl (fun ls hl => ?_)
                refine lv_goto (tgt := 95) hx hb dX10_append_129 (by decide) ?_
                refine lv_iload hx hb dX10_append_95 (lv_at hl 0 rfl) ?_
                refine lv_if_lt (tgt := 132) hx hb dX10_append_97 (by decide) (fun _ => ?_) (fun h => absurd (by decide) h)
                refine lv_aload_n hx hb dX10_append_132 rfl (lv_at hl 2 rfl) ?_
                refine g_get hx hb hg hown hK hP 0 rfl rfl inX10 1 (by decide) q607 rfl dX10_append_133 ?_
                exact vx_ret (g_iret hx hb hr rfl hlocks hK () (hP.sub [] rfl) (hD.sub [] rfl rfl) hS ⟨rfl, by unfold gIn; decide, by rw [apI_2]; exact ⟨⟨k15, k16⟩, ⟨k20, k21⟩, trivial⟩⟩ (Nat.le_of_ble_eq_true rfl) (Nat.le_of_ble_eq_true rfl) dX10_append_136)
              · exact g_thr (cls := xIAE) (is := 101) (text := "a byte is not 32 .. 126") hx hb hg htr hown (by decide) q731 q167 (by decide +kernel) atIAE (by decide +kernel) hZ hS hml hl.1 hnt hlocks dX10_append_52 dX10_append_55 dX10_append_56 dX10_append_58 dX10_append_61 (Nat.le_of_ble_eq_true rfl) (Nat.le_of_ble_eq_true rfl) (Nat.le_of_ble_eq_true rfl) (Nat.le_of_ble_eq_true rfl) (Nat.le_of_ble_eq_true rfl) (Nat.le_of_ble_eq_true rfl) ⟨rfl, (fun h => by have h := h.2; rw [apI_2] at h; exact k21 h.2.1.2)⟩
          · exact g_thr (cls := xIAE) (is := 101) (text := "a byte is not 32 .. 126") hx hb hg htr hown (by decide) q731 q167 (by decide +kernel) atIAE (by decide +kernel) hZ hS hml hl.1 hnt hlocks dX10_append_52 dX10_append_55 dX10_append_56 dX10_append_58 dX10_append_61 (Nat.le_of_ble_eq_true rfl) (Nat.le_of_ble_eq_true rfl) (Nat.le_of_ble_eq_true rfl) (Nat.le_of_ble_eq_true rfl) (Nat.le_of_ble_eq_true rfl) (Nat.le_of_ble_eq_true rfl) ⟨rfl, (fun h => by have h := h.2; rw [apI_2] at h; exact k16 h.1.2)⟩
      · refine lv_iconst (v := 0) hx hb dX10_append_21 (by decide) ?_
        refine lv_istore (lv' := [(4, .int 0), (0, .ref h0), (1, .long v), (3, .int 3)]) hx hb dX10_append_22 hl (by decide) rfl (fun ls hl => ?_)
        refine lv_iload hx hb dX10_append_24 (lv_at hl 0 rfl) ?_
        refine lv_iload_n hx hb dX10_append_26 rfl (lv_at hl 3 rfl) ?_
        refine lv_icmp_ge (tgt := 68) hx hb dX10_append_27 (by decide) (fun h => absurd h (by decide)) (fun _ => ?_)
        refine lv_lload_n hx hb dX10_append_30 rfl (lv_at hl 2 rfl) ?_
        refine lv_iload hx hb dX10_append_31 (lv_at hl 0 rfl) ?_
        refine g_Si (n := 2) (As := [.long v, .int 0]) (rest := []) (wr := [(h0, .inr (10, [.ref (ad 0), .int 0, .int (-1), .int (-1), .ref (ad 1), .ref (ad 2), .ref (ad 3), .ref (ad 4), .ref (ad 5), .ref (ad 6), .ref (ad 7), .ref (ad 8)])), (ad 0, .inl (dA 2, 480, .inl (fun _ => 0)))]) hx hb hml hg hown hK hP hD hS hA (c_X10_byteOf l D dA v 0 _) [] [0, 1] rfl (by decide) rfl (by decide) (by decide) q749 q149 q747 q748 (by decide +kernel) ⟨(Nat.le_of_ble_eq_true rfl), (Nat.le_of_ble_eq_true rfl)⟩ rfl hl.1 rfl (Nat.le_of_ble_eq_true rfl) dX10_append_33 ⟨(Nat.le_of_ble_eq_true rfl), (Nat.le_of_ble_eq_true rfl)⟩ (fun r31 u30 H locs w32 hP hD hS => ?_)
        refine W.widen (k := 0) (n := 0) (Nat.le_of_ble_eq_true rfl) (Nat.le_of_ble_eq_true rfl) ?_
        have hP : va_P D vwC [(h0, .inr (10, [.ref (ad 0), .int 0, .int (-1), .int (-1), .ref (ad 1), .ref (ad 2), .ref (ad 3), .ref (ad 4), .ref (ad 5), .ref (ad 6), .ref (ad 7), .ref (ad 8)])), (ad 0, .inl (dA 2, 480, .inl (fun _ => 0)))] H := hP
        have hD : va_D A [(h0, .inr (10, [.ref (ad 0), .int 0, .int (-1), .int (-1), .ref (ad 1), .ref (ad 2), .ref (ad 3), .ref (ad 4), .ref (ad 5), .ref (ad 6), .ref (ad 7), .ref (ad 8)])), (ad 0, .inl (dA 2, 480, .inl (fun _ => 0)))] := hD
        obtain rfl : r31 = bC v 0 := w32
        refine lv_istore (lv' := [(5, .int (bC v 0)), (4, .int 0), (0, .ref h0), (1, .long v), (3, .int 3)]) hx hb dX10_append_36 hl (by decide) rfl (fun ls hl => ?_)
        refine lv_iload hx hb dX10_append_38 (lv_at hl 0 rfl) ?_
        refine lv_bipush (v := 32) hx hb dX10_append_40 (by decide) ?_
        refine lv_icmp_lt (tgt := 52) hx hb dX10_append_42 (by decide) (fun k33 => ?_) (fun k33 => ?_)
        · exact g_thr (cls := xIAE) (is := 101) (text := "a byte is not 32 .. 126") hx hb hg htr hown (by decide) q731 q167 (by decide +kernel) atIAE (by decide +kernel) hZ hS hml hl.1 hnt hlocks dX10_append_52 dX10_append_55 dX10_append_56 dX10_append_58 dX10_append_61 (Nat.le_of_ble_eq_true rfl) (Nat.le_of_ble_eq_true rfl) (Nat.le_of_ble_eq_true rfl) (Nat.le_of_ble_eq_true rfl) (Nat.le_of_ble_eq_true rfl) (Nat.le_of_ble_eq_true rfl) ⟨rfl, (fun h => by have h := h.2; rw [apI_3] at h; exact h.1.1 k33)⟩
        · refine lv_iload hx hb dX10_append_45 (lv_at hl 0 rfl) ?_
          refine lv_bipush (v := 126) hx hb dX10_append_47 (by decide) ?_
          refine lv_icmp_le (tgt := 62) hx hb dX10_append_49 (by decide) (fun k34 => ?_) (fun k34 => ?_)
          · refine lv_iinc (v := 1) (lv' := [(4, .int 1), (5, .int (bC v 0)), (0, .ref h0), (1, .long v), (3, .int 3)]) hx hb dX10_append_62 hl (k := 1) rfl (by decide) (by decide) rfl (fun ls hl => ?_)
            refine lv_goto (tgt := 24) hx hb dX10_append_65 (by decide) ?_
            refine lv_iload hx hb dX10_append_24 (lv_at hl 0 rfl) ?_
            refine lv_iload_n hx hb dX10_append_26 rfl (lv_at hl 4 rfl) ?_
            refine lv_icmp_ge (tgt := 68) hx hb dX10_append_27 (by decide) (fun h => absurd h (by decide)) (fun _ => ?_)
            refine lv_lload_n hx hb dX10_append_30 rfl (lv_at hl 3 rfl) ?_
            refine lv_iload hx hb dX10_append_31 (lv_at hl 0 rfl) ?_
            refine g_Si (n := 2) (As := [.long v, .int 1]) (rest := []) (wr := [(h0, .inr (10, [.ref (ad 0), .int 0, .int (-1), .int (-1), .ref (ad 1), .ref (ad 2), .ref (ad 3), .ref (ad 4), .ref (ad 5), .ref (ad 6), .ref (ad 7), .ref (ad 8)])), (ad 0, .inl (dA 2, 480, .inl (fun _ => 0)))]) hx hb hml hg hown hK hP hD hS hA (c_X10_byteOf l D dA v 1 _) [] [0, 1] rfl (by decide) rfl (by decide) (by decide) q749 q149 q747 q748 (by decide +kernel) ⟨(Nat.le_of_ble_eq_true rfl), (Nat.le_of_ble_eq_true rfl)⟩ rfl hl.1 rfl (Nat.le_of_ble_eq_true rfl) dX10_append_33 ⟨(Nat.le_of_ble_eq_true rfl), (Nat.le_of_ble_eq_true rfl)⟩ (fun r36 u35 H locs w37 hP hD hS => ?_)
            refine W.widen (k := 0) (n := 0) (Nat.le_of_ble_eq_true rfl) (Nat.le_of_ble_eq_true rfl) ?_
            have hP : va_P D vwC [(h0, .inr (10, [.ref (ad 0), .int 0, .int (-1), .int (-1), .ref (ad 1), .ref (ad 2), .ref (ad 3), .ref (ad 4), .ref (ad 5), .ref (ad 6), .ref (ad 7), .ref (ad 8)])), (ad 0, .inl (dA 2, 480, .inl (fun _ => 0)))] H := hP
            have hD : va_D A [(h0, .inr (10, [.ref (ad 0), .int 0, .int (-1), .int (-1), .ref (ad 1), .ref (ad 2), .ref (ad 3), .ref (ad 4), .ref (ad 5), .ref (ad 6), .ref (ad 7), .ref (ad 8)])), (ad 0, .inl (dA 2, 480, .inl (fun _ => 0)))] := hD
            obtain rfl : r36 = bC v 1 := w37
            refine lv_istore (lv' := [(5, .int (bC v 1)), (4, .int 1), (0, .ref h0), (1, .long v), (3, .int 3)]) hx hb dX10_append_36 hl (by decide) rfl (fun ls hl => ?_)
            refine lv_iload hx hb dX10_append_38 (lv_at hl 0 rfl) ?_
            refine lv_bipush (v := 32) hx hb dX10_append_40 (by decide) ?_
            refine lv_icmp_lt (tgt := 52) hx hb dX10_append_42 (by decide) (fun k38 => ?_) (fun k38 => ?_)
            · exact g_thr (cls := xIAE) (is := 101) (text := "a byte is not 32 .. 126") hx hb hg htr hown (by decide) q731 q167 (by decide +kernel) atIAE (by decide +kernel) hZ hS hml hl.1 hnt hlocks dX10_append_52 dX10_append_55 dX10_append_56 dX10_append_58 dX10_append_61 (Nat.le_of_ble_eq_true rfl) (Nat.le_of_ble_eq_true rfl) (Nat.le_of_ble_eq_true rfl) (Nat.le_of_ble_eq_true rfl) (Nat.le_of_ble_eq_true rfl) (Nat.le_of_ble_eq_true rfl) ⟨rfl, (fun h => by have h := h.2; rw [apI_3] at h; exact h.2.1.1 k38)⟩
            · refine lv_iload hx hb dX10_append_45 (lv_at hl 0 rfl) ?_
              refine lv_bipush (v := 126) hx hb dX10_append_47 (by decide) ?_
              refine lv_icmp_le (tgt := 62) hx hb dX10_append_49 (by decide) (fun k39 => ?_) (fun k39 => ?_)
              · refine lv_iinc (v := 2) (lv' := [(4, .int 2), (5, .int (bC v 1)), (0, .ref h0), (1, .long v), (3, .int 3)]) hx hb dX10_append_62 hl (k := 1) rfl (by decide) (by decide) rfl (fun ls hl => ?_)
                refine lv_goto (tgt := 24) hx hb dX10_append_65 (by decide) ?_
                refine lv_iload hx hb dX10_append_24 (lv_at hl 0 rfl) ?_
                refine lv_iload_n hx hb dX10_append_26 rfl (lv_at hl 4 rfl) ?_
                refine lv_icmp_ge (tgt := 68) hx hb dX10_append_27 (by decide) (fun h => absurd h (by decide)) (fun _ => ?_)
                refine lv_lload_n hx hb dX10_append_30 rfl (lv_at hl 3 rfl) ?_
                refine lv_iload hx hb dX10_append_31 (lv_at hl 0 rfl) ?_
                refine g_Si (n := 2) (As := [.long v, .int 2]) (rest := []) (wr := [(h0, .inr (10, [.ref (ad 0), .int 0, .int (-1), .int (-1), .ref (ad 1), .ref (ad 2), .ref (ad 3), .ref (ad 4), .ref (ad 5), .ref (ad 6), .ref (ad 7), .ref (ad 8)])), (ad 0, .inl (dA 2, 480, .inl (fun _ => 0)))]) hx hb hml hg hown hK hP hD hS hA (c_X10_byteOf l D dA v 2 _) [] [0, 1] rfl (by decide) rfl (by decide) (by decide) q749 q149 q747 q748 (by decide +kernel) ⟨(Nat.le_of_ble_eq_true rfl), (Nat.le_of_ble_eq_true rfl)⟩ rfl hl.1 rfl (Nat.le_of_ble_eq_true rfl) dX10_append_33 ⟨(Nat.le_of_ble_eq_true rfl), (Nat.le_of_ble_eq_true rfl)⟩ (fun r41 u40 H locs w42 hP hD hS => ?_)
                refine W.widen (k := 0) (n := 0) (Nat.le_of_ble_eq_true rfl) (Nat.le_of_ble_eq_true rfl) ?_
                have hP : va_P D vwC [(h0, .inr (10, [.ref (ad 0), .int 0, .int (-1), .int (-1), .ref (ad 1), .ref (ad 2), .ref (ad 3), .ref (ad 4), .ref (ad 5), .ref (ad 6), .ref (ad 7), .ref (ad 8)])), (ad 0, .inl (dA 2, 480, .inl (fun _ => 0)))] H := hP
                have hD : va_D A [(h0, .inr (10, [.ref (ad 0), .int 0, .int (-1), .int (-1), .ref (ad 1), .ref (ad 2), .ref (ad 3), .ref (ad 4), .ref (ad 5), .ref (ad 6), .ref (ad 7), .ref (ad 8)])), (ad 0, .inl (dA 2, 480, .inl (fun _ => 0)))] := hD
                obtain rfl : r41 = bC v 2 := w42
                refine lv_istore (lv' := [(5, .int (bC v 2)), (4, .int 2), (0, .ref h0), (1, .long v), (3, .int 3)]) hx hb dX10_append_36 hl (by decide) rfl (fun ls hl => ?_)
                refine lv_iload hx hb dX10_append_38 (lv_at hl 0 rfl) ?_
                refine lv_bipush (v := 32) hx hb dX10_append_40 (by decide) ?_
                refine lv_icmp_lt (tgt := 52) hx hb dX10_append_42 (by decide) (fun k43 => ?_) (fun k43 => ?_)
                · exact g_thr (cls := xIAE) (is := 101) (text := "a byte is not 32 .. 126") hx hb hg htr hown (by decide) q731 q167 (by decide +kernel) atIAE (by decide +kernel) hZ hS hml hl.1 hnt hlocks dX10_append_52 dX10_append_55 dX10_append_56 dX10_append_58 dX10_append_61 (Nat.le_of_ble_eq_true rfl) (Nat.le_of_ble_eq_true rfl) (Nat.le_of_ble_eq_true rfl) (Nat.le_of_ble_eq_true rfl) (Nat.le_of_ble_eq_true rfl) (Nat.le_of_ble_eq_true rfl) ⟨rfl, (fun h => by have h := h.2; rw [apI_3] at h; exact h.2.2.1.1 k43)⟩
                · refine lv_iload hx hb dX10_append_45 (lv_at hl 0 rfl) ?_
                  refine lv_bipush (v := 126) hx hb dX10_append_47 (by decide) ?_
                  refine lv_icmp_le (tgt := 62) hx hb dX10_append_49 (by decide) (fun k44 => ?_) (fun k44 => ?_)
                  · refine lv_iinc (v := 3) (lv' := [(4, .int 3), (5, .int (bC v 2)), (0, .ref h0), (1, .long v), (3, .int 3)]) hx hb dX10_append_62 hl (k := 1) rfl (by decide) (by decide) rfl (fun ls hl => ?_)
                    refine lv_goto (tgt := 24) hx hb dX10_append_65 (by decide) ?_
                    refine lv_iload hx hb dX10_append_24 (lv_at hl 0 rfl) ?_
                    refine lv_iload_n hx hb dX10_append_26 rfl (lv_at hl 4 rfl) ?_
                    refine lv_icmp_ge (tgt := 68) hx hb dX10_append_27 (by decide) (fun _ => ?_) (fun h => absurd (by decide) h)
                    refine lv_aload_n hx hb dX10_append_68 rfl (lv_at hl 2 rfl) ?_
                    refine g_get hx hb hg hown hK hP 0 rfl rfl inX10 1 (by decide) q607 rfl dX10_append_69 ?_
                    refine lv_iload_n hx hb dX10_append_72 rfl (lv_at hl 4 rfl) ?_
                    refine lv_iadd hx hb dX10_append_73 ?_
                    refine g_nrm (y := 3) (by decide) ?_
                    refine lv_sipush (v := 480) hx hb dX10_append_74 (by decide) ?_
                    refine lv_icmp_le (tgt := 90) hx hb dX10_append_77 (by decide) (fun _ => ?_) (fun h => absurd (by decide) h)
                    refine lv_iload_n hx hb dX10_append_90 rfl (lv_at hl 4 rfl) ?_
                    refine lv_iconst (v := 1) hx hb dX10_append_91 (by decide) ?_
                    refine lv_isub hx hb dX10_append_92 ?_
                    refine g_nrm (y := 2) (by decide) ?_
                    refine lv_istore (lv' := [(4, .int 2), (5, .int (bC v 2)), (0, .ref h0), (1, .long v), (3, .int 3)]) hx hb dX10_append_93 hl (by decide) rfl (fun ls hl => ?_)
                    refine lv_iload hx hb dX10_append_95 (lv_at hl 0 rfl) ?_
                    refine lv_if_lt (tgt := 132) hx hb dX10_append_97 (by decide) (fun h => absurd h (by decide)) (fun _ => ?_)
                    refine lv_aload_n hx hb dX10_append_100 rfl (lv_at hl 2 rfl) ?_
                    refine g_get hx hb hg hown hK hP 0 rfl rfl inX10 0 (by decide) q606 rfl dX10_append_101 ?_
                    refine lv_aload_n hx hb dX10_append_104 rfl (lv_at hl 2 rfl) ?_
                    refine g_get hx hb hg hown hK hP 0 rfl rfl inX10 1 (by decide) q607 rfl dX10_append_105 ?_
                    refine lv_lload_n hx hb dX10_append_108 rfl (lv_at hl 3 rfl) ?_
                    refine lv_iload hx hb dX10_append_109 (lv_at hl 0 rfl) ?_
                    refine g_Si (n := 2) (As := [.long v, .int 2]) (rest := [.int 0, .ref (ad 0)]) (wr := [(h0, .inr (10, [.ref (ad 0), .int 0, .int (-1), .int (-1), .ref (ad 1), .ref (ad 2), .ref (ad 3), .ref (ad 4), .ref (ad 5), .ref (ad 6), .ref (ad 7), .ref (ad 8)])), (ad 0, .inl (dA 2, 480, .inl (fun _ => 0)))]) hx hb hml hg hown hK hP hD hS hA (c_X10_byteOf l D dA v 2 _) [] [0, 1] rfl (by decide) rfl (by decide) (by decide) q749 q149 q747 q748 (by decide +kernel) ⟨(Nat.le_of_ble_eq_true rfl), (Nat.le_of_ble_eq_true rfl)⟩ rfl hl.1 rfl (Nat.le_of_ble_eq_true rfl) dX10_append_111 ⟨(Nat.le_of_ble_eq_true rfl), (Nat.le_of_ble_eq_true rfl)⟩ (fun r46 u45 H locs w47 hP hD hS => ?_)
                    refine W.widen (k := 0) (n := 0) (Nat.le_of_ble_eq_true rfl) (Nat.le_of_ble_eq_true rfl) ?_
                    have hP : va_P D vwC [(h0, .inr (10, [.ref (ad 0), .int 0, .int (-1), .int (-1), .ref (ad 1), .ref (ad 2), .ref (ad 3), .ref (ad 4), .ref (ad 5), .ref (ad 6), .ref (ad 7), .ref (ad 8)])), (ad 0, .inl (dA 2, 480, .inl (fun _ => 0)))] H := hP
                    have hD : va_D A [(h0, .inr (10, [.ref (ad 0), .int 0, .int (-1), .int (-1), .ref (ad 1), .ref (ad 2), .ref (ad 3), .ref (ad 4), .ref (ad 5), .ref (ad 6), .ref (ad 7), .ref (ad 8)])), (ad 0, .inl (dA 2, 480, .inl (fun _ => 0)))] := hD
                    obtain rfl : r46 = bC v 2 := w47
                    refine lv_i2c (v := (((bC v 2).toUInt32 % 65536).toInt32)) hx hb dX10_append_114 rfl ?_
                    refine va_cast hx hb hK hP hD hS 1 2 rfl rfl (by unfold vp_in; decide) dX10_append_115 (fun H locs hP hD hS => ?_)
                    have hP : va_P D vwC [(h0, .inr (10, [.ref (ad 0), .int 0, .int (-1), .int (-1), .ref (ad 1), .ref (ad 2), .ref (ad 3), .ref (ad 4), .ref (ad 5), .ref (ad 6), .ref (ad 7), .ref (ad 8)])), (ad 0, .inl (dA 2, 480, .inl (upd (fun _ => 0) (0 : Int32).toNatClampNeg (vp_nar .char (((bC v 2).toUInt32 % 65536).toInt32)))))] H := hP
                    have hD : va_D A [(h0, .inr (10, [.ref (ad 0), .int 0, .int (-1), .int (-1), .ref (ad 1), .ref (ad 2), .ref (ad 3), .ref (ad 4), .ref (ad 5), .ref (ad 6), .ref (ad 7), .ref (ad 8)])), (ad 0, .inl (dA 2, 480, .inl (upd (fun _ => 0) (0 : Int32).toNatClampNeg (vp_nar .char (((bC v 2).toUInt32 % 65536).toInt32)))))] := hD
                    generalize (upd (fun _ => 0) (0 : Int32).toNatClampNeg (vp_nar .char (((bC v 2).toUInt32 % 65536).toInt32))) = f48 at hP hD
                    refine lv_aload_n hx hb dX10_append_116 rfl (lv_at hl 2 rfl) ?_
                    refine lv_dup hx hb dX10_append_117 rfl ?_
                    refine g_get hx hb hg hown hK hP 0 rfl rfl inX10 1 (by decide) q607 rfl dX10_append_118 ?_
                    refine lv_iconst (v := 1) hx hb dX10_append_121 (by decide) ?_
                    refine lv_iadd hx hb dX10_append_122 ?_
                    refine g_nrm (y := 1) (by decide) ?_
                    refine g_put (w' := [(h0, .inr (10, [.ref (ad 0), .int 1, .int (-1), .int (-1), .ref (ad 1), .ref (ad 2), .ref (ad 3), .ref (ad 4), .ref (ad 5), .ref (ad 6), .ref (ad 7), .ref (ad 8)])), (ad 0, .inl (dA 2, 480, .inl f48))]) hx hb hg hown hK hP hD hS 0 rfl rfl inX10 tyX10_ok nmX10 1 (by decide) q607 rfl rfl rfl (Nat.le_of_ble_eq_true rfl) rfl dX10_append_123 (fun H locs hP hD hS => ?_)
                    refine lv_iinc (v := 1) (lv' := [(4, .int 1), (5, .int (bC v 2)), (0, .ref h0), (1, .long v), (3, .int 3)]) hx hb dX10_append_126 hl (k := 0) rfl (by decide) (by decide) rfl (fun ls hl => ?_)
                    refine lv_goto (tgt := 95) hx hb dX10_append_129 (by decide) ?_
                    refine lv_iload hx hb dX10_append_95 (lv_at hl 0 rfl) ?_
                    refine lv_if_lt (tgt := 132) hx hb dX10_append_97 (by decide) (fun h => absurd h (by decide)) (fun _ => ?_)
                    refine lv_aload_n hx hb dX10_append_100 rfl (lv_at hl 2 rfl) ?_
                    refine g_get hx hb hg hown hK hP 0 rfl rfl inX10 0 (by decide) q606 rfl dX10_append_101 ?_
                    refine lv_aload_n hx hb dX10_append_104 rfl (lv_at hl 2 rfl) ?_
                    refine g_get hx hb hg hown hK hP 0 rfl rfl inX10 1 (by decide) q607 rfl dX10_append_105 ?_
                    refine lv_lload_n hx hb dX10_append_108 rfl (lv_at hl 3 rfl) ?_
                    refine lv_iload hx hb dX10_append_109 (lv_at hl 0 rfl) ?_
                    refine g_Si (n := 2) (As := [.long v, .int 1]) (rest := [.int 1, .ref (ad 0)]) (wr := [(h0, .inr (10, [.ref (ad 0), .int 1, .int (-1), .int (-1), .ref (ad 1), .ref (ad 2), .ref (ad 3), .ref (ad 4), .ref (ad 5), .ref (ad 6), .ref (ad 7), .ref (ad 8)])), (ad 0, .inl (dA 2, 480, .inl f48))]) hx hb hml hg hown hK hP hD hS hA (c_X10_byteOf l D dA v 1 _) [] [0, 1] rfl (by decide) rfl (by decide) (by decide) q749 q149 q747 q748 (by decide +kernel) ⟨(Nat.le_of_ble_eq_true rfl), (Nat.le_of_ble_eq_true rfl)⟩ rfl hl.1 rfl (Nat.le_of_ble_eq_true rfl) dX10_append_111 ⟨(Nat.le_of_ble_eq_true rfl), (Nat.le_of_ble_eq_true rfl)⟩ (fun r50 u49 H locs w51 hP hD hS => ?_)
                    refine W.widen (k := 0) (n := 0) (Nat.le_of_ble_eq_true rfl) (Nat.le_of_ble_eq_true rfl) ?_
                    have hP : va_P D vwC [(h0, .inr (10, [.ref (ad 0), .int 1, .int (-1), .int (-1), .ref (ad 1), .ref (ad 2), .ref (ad 3), .ref (ad 4), .ref (ad 5), .ref (ad 6), .ref (ad 7), .ref (ad 8)])), (ad 0, .inl (dA 2, 480, .inl f48))] H := hP
                    have hD : va_D A [(h0, .inr (10, [.ref (ad 0), .int 1, .int (-1), .int (-1), .ref (ad 1), .ref (ad 2), .ref (ad 3), .ref (ad 4), .ref (ad 5), .ref (ad 6), .ref (ad 7), .ref (ad 8)])), (ad 0, .inl (dA 2, 480, .inl f48))] := hD
                    obtain rfl : r50 = bC v 1 := w51
                    refine lv_i2c (v := (((bC v 1).toUInt32 % 65536).toInt32)) hx hb dX10_append_114 rfl ?_
                    refine va_cast hx hb hK hP hD hS 1 2 rfl rfl (by unfold vp_in; decide) dX10_append_115 (fun H locs hP hD hS => ?_)
                    have hP : va_P D vwC [(h0, .inr (10, [.ref (ad 0), .int 1, .int (-1), .int (-1), .ref (ad 1), .ref (ad 2), .ref (ad 3), .ref (ad 4), .ref (ad 5), .ref (ad 6), .ref (ad 7), .ref (ad 8)])), (ad 0, .inl (dA 2, 480, .inl (upd f48 (1 : Int32).toNatClampNeg (vp_nar .char (((bC v 1).toUInt32 % 65536).toInt32)))))] H := hP
                    have hD : va_D A [(h0, .inr (10, [.ref (ad 0), .int 1, .int (-1), .int (-1), .ref (ad 1), .ref (ad 2), .ref (ad 3), .ref (ad 4), .ref (ad 5), .ref (ad 6), .ref (ad 7), .ref (ad 8)])), (ad 0, .inl (dA 2, 480, .inl (upd f48 (1 : Int32).toNatClampNeg (vp_nar .char (((bC v 1).toUInt32 % 65536).toInt32)))))] := hD
                    generalize (upd f48 (1 : Int32).toNatClampNeg (vp_nar .char (((bC v 1).toUInt32 % 65536).toInt32))) = f52 at hP hD
                    refine lv_aload_n hx hb dX10_append_116 rfl (lv_at hl 2 rfl) ?_
                    refine lv_dup hx hb dX10_append_117 rfl ?_
                    refine g_get hx hb hg hown hK hP 0 rfl rfl inX10 1 (by decide) q607 rfl dX10_append_118 ?_
                    refine lv_iconst (v := 1) hx hb dX10_append_121 (by decide) ?_
                    refine lv_iadd hx hb dX10_append_122 ?_
                    refine g_nrm (y := 2) (by decide) ?_
                    refine g_put (w' := [(h0, .inr (10, [.ref (ad 0), .int 2, .int (-1), .int (-1), .ref (ad 1), .ref (ad 2), .ref (ad 3), .ref (ad 4), .ref (ad 5), .ref (ad 6), .ref (ad 7), .ref (ad 8)])), (ad 0, .inl (dA 2, 480, .inl f52))]) hx hb hg hown hK hP hD hS 0 rfl rfl inX10 tyX10_ok nmX10 1 (by decide) q607 rfl rfl rfl (Nat.le_of_ble_eq_true rfl) rfl dX10_append_123 (fun H locs hP hD hS => ?_)
                    refine lv_iinc (v := 0) (lv' := [(4, .int 0), (5, .int (bC v 2)), (0, .ref h0), (1, .long v), (3, .int 3)]) hx hb dX10_append_126 hl (k := 0) rfl (by decide) (by decide) rfl (fun ls hl => ?_)
                    refine lv_goto (tgt := 95) hx hb dX10_append_129 (by decide) ?_
                    refine lv_iload hx hb dX10_append_95 (lv_at hl 0 rfl) ?_
                    refine lv_if_lt (tgt := 132) hx hb dX10_append_97 (by decide) (fun h => absurd h (by decide)) (fun _ => ?_)
                    refine lv_aload_n hx hb dX10_append_100 rfl (lv_at hl 2 rfl) ?_
                    refine g_get hx hb hg hown hK hP 0 rfl rfl inX10 0 (by decide) q606 rfl dX10_append_101 ?_
                    refine lv_aload_n hx hb dX10_append_104 rfl (lv_at hl 2 rfl) ?_
                    refine g_get hx hb hg hown hK hP 0 rfl rfl inX10 1 (by decide) q607 rfl dX10_append_105 ?_
                    refine lv_lload_n hx hb dX10_append_108 rfl (lv_at hl 3 rfl) ?_
                    refine lv_iload hx hb dX10_append_109 (lv_at hl 0 rfl) ?_
                    refine g_Si (n := 2) (As := [.long v, .int 0]) (rest := [.int 2, .ref (ad 0)]) (wr := [(h0, .inr (10, [.ref (ad 0), .int 2, .int (-1), .int (-1), .ref (ad 1), .ref (ad 2), .ref (ad 3), .ref (ad 4), .ref (ad 5), .ref (ad 6), .ref (ad 7), .ref (ad 8)])), (ad 0, .inl (dA 2, 480, .inl f52))]) hx hb hml hg hown hK hP hD hS hA (c_X10_byteOf l D dA v 0 _) [] [0, 1] rfl (by decide) rfl (by decide) (by decide) q749 q149 q747 q748 (by decide +kernel) ⟨(Nat.le_of_ble_eq_true rfl), (Nat.le_of_ble_eq_true rfl)⟩ rfl hl.1 rfl (Nat.le_of_ble_eq_true rfl) dX10_append_111 ⟨(Nat.le_of_ble_eq_true rfl), (Nat.le_of_ble_eq_true rfl)⟩ (fun r54 u53 H locs w55 hP hD hS => ?_)
                    refine W.widen (k := 0) (n := 0) (Nat.le_of_ble_eq_true rfl) (Nat.le_of_ble_eq_true rfl) ?_
                    have hP : va_P D vwC [(h0, .inr (10, [.ref (ad 0), .int 2, .int (-1), .int (-1), .ref (ad 1), .ref (ad 2), .ref (ad 3), .ref (ad 4), .ref (ad 5), .ref (ad 6), .ref (ad 7), .ref (ad 8)])), (ad 0, .inl (dA 2, 480, .inl f52))] H := hP
                    have hD : va_D A [(h0, .inr (10, [.ref (ad 0), .int 2, .int (-1), .int (-1), .ref (ad 1), .ref (ad 2), .ref (ad 3), .ref (ad 4), .ref (ad 5), .ref (ad 6), .ref (ad 7), .ref (ad 8)])), (ad 0, .inl (dA 2, 480, .inl f52))] := hD
                    obtain rfl : r54 = bC v 0 := w55
                    refine lv_i2c (v := (((bC v 0).toUInt32 % 65536).toInt32)) hx hb dX10_append_114 rfl ?_
                    refine va_cast hx hb hK hP hD hS 1 2 rfl rfl (by unfold vp_in; decide) dX10_append_115 (fun H locs hP hD hS => ?_)
                    have hP : va_P D vwC [(h0, .inr (10, [.ref (ad 0), .int 2, .int (-1), .int (-1), .ref (ad 1), .ref (ad 2), .ref (ad 3), .ref (ad 4), .ref (ad 5), .ref (ad 6), .ref (ad 7), .ref (ad 8)])), (ad 0, .inl (dA 2, 480, .inl (upd f52 (2 : Int32).toNatClampNeg (vp_nar .char (((bC v 0).toUInt32 % 65536).toInt32)))))] H := hP
                    have hD : va_D A [(h0, .inr (10, [.ref (ad 0), .int 2, .int (-1), .int (-1), .ref (ad 1), .ref (ad 2), .ref (ad 3), .ref (ad 4), .ref (ad 5), .ref (ad 6), .ref (ad 7), .ref (ad 8)])), (ad 0, .inl (dA 2, 480, .inl (upd f52 (2 : Int32).toNatClampNeg (vp_nar .char (((bC v 0).toUInt32 % 65536).toInt32)))))] := hD
                    generalize (upd f52 (2 : Int32).toNatClampNeg (vp_nar .char (((bC v 0).toUInt32 % 65536).toInt32))) = f56 at hP hD
                    refine lv_aload_n hx hb dX10_append_116 rfl (lv_at hl 2 rfl) ?_
                    refine lv_dup hx hb dX10_append_117 rfl ?_
                    refine g_get hx hb hg hown hK hP 0 rfl rfl inX10 1 (by decide) q607 rfl dX10_append_118 ?_
                    refine lv_iconst (v := 1) hx hb dX10_append_121 (by decide) ?_
                    refine lv_iadd hx hb dX10_append_122 ?_
                    refine g_nrm (y := 3) (by decide) ?_
                    refine g_put (w' := [(h0, .inr (10, [.ref (ad 0), .int 3, .int (-1), .int (-1), .ref (ad 1), .ref (ad 2), .ref (ad 3), .ref (ad 4), .ref (ad 5), .ref (ad 6), .ref (ad 7), .ref (ad 8)])), (ad 0, .inl (dA 2, 480, .inl f56))]) hx hb hg hown hK hP hD hS 0 rfl rfl inX10 tyX10_ok nmX10 1 (by decide) q607 rfl rfl rfl (Nat.le_of_ble_eq_true rfl) rfl dX10_append_123 (fun H locs hP hD hS => ?_)
                    refine lv_iinc (v := (-1)) (lv' := [(4, .int (-1)), (5, .int (bC v 2)), (0, .ref h0), (1, .long v), (3, .int 3)]) hx hb dX10_append_126 hl (k := 0) rfl (by decide) (by decide) rfl (fun ls hl => ?_)
                    refine lv_goto (tgt := 95) hx hb dX10_append_129 (by decide) ?_
                    refine lv_iload hx hb dX10_append_95 (lv_at hl 0 rfl) ?_
                    refine lv_if_lt (tgt := 132) hx hb dX10_append_97 (by decide) (fun _ => ?_) (fun h => absurd (by decide) h)
                    refine lv_aload_n hx hb dX10_append_132 rfl (lv_at hl 2 rfl) ?_
                    refine g_get hx hb hg hown hK hP 0 rfl rfl inX10 1 (by decide) q607 rfl dX10_append_133 ?_
                    exact vx_ret (g_iret hx hb hr rfl hlocks hK () (hP.sub [] rfl) (hD.sub [] rfl rfl) hS ⟨rfl, by unfold gIn; decide, by rw [apI_3]; exact ⟨⟨k33, k34⟩, ⟨k38, k39⟩, ⟨k43, k44⟩, trivial⟩⟩ (Nat.le_of_ble_eq_true rfl) (Nat.le_of_ble_eq_true rfl) dX10_append_136)
                  · exact g_thr (cls := xIAE) (is := 101) (text := "a byte is not 32 .. 126") hx hb hg htr hown (by decide) q731 q167 (by decide +kernel) atIAE (by decide +kernel) hZ hS hml hl.1 hnt hlocks dX10_append_52 dX10_append_55 dX10_append_56 dX10_append_58 dX10_append_61 (Nat.le_of_ble_eq_true rfl) (Nat.le_of_ble_eq_true rfl) (Nat.le_of_ble_eq_true rfl) (Nat.le_of_ble_eq_true rfl) (Nat.le_of_ble_eq_true rfl) (Nat.le_of_ble_eq_true rfl) ⟨rfl, (fun h => by have h := h.2; rw [apI_3] at h; exact k44 h.2.2.1.2)⟩
              · exact g_thr (cls := xIAE) (is := 101) (text := "a byte is not 32 .. 126") hx hb hg htr hown (by decide) q731 q167 (by decide +kernel) atIAE (by decide +kernel) hZ hS hml hl.1 hnt hlocks dX10_append_52 dX10_append_55 dX10_append_56 dX10_append_58 dX10_append_61 (Nat.le_of_ble_eq_true rfl) (Nat.le_of_ble_eq_true rfl) (Nat.le_of_ble_eq_true rfl) (Nat.le_of_ble_eq_true rfl) (Nat.le_of_ble_eq_true rfl) (Nat.le_of_ble_eq_true rfl) ⟨rfl, (fun h => by have h := h.2; rw [apI_3] at h; exact k39 h.2.1.2)⟩
          · exact g_thr (cls := xIAE) (is := 101) (text := "a byte is not 32 .. 126") hx hb hg htr hown (by decide) q731 q167 (by decide +kernel) atIAE (by decide +kernel) hZ hS hml hl.1 hnt hlocks dX10_append_52 dX10_append_55 dX10_append_56 dX10_append_58 dX10_append_61 (Nat.le_of_ble_eq_true rfl) (Nat.le_of_ble_eq_true rfl) (Nat.le_of_ble_eq_true rfl) (Nat.le_of_ble_eq_true rfl) (Nat.le_of_ble_eq_true rfl) (Nat.le_of_ble_eq_true rfl) ⟨rfl, (fun h => by have h := h.2; rw [apI_3] at h; exact k34 h.1.2)⟩
      · refine lv_iconst (v := 0) hx hb dX10_append_21 (by decide) ?_
        refine lv_istore (lv' := [(4, .int 0), (0, .ref h0), (1, .long v), (3, .int 4)]) hx hb dX10_append_22 hl (by decide) rfl (fun ls hl => ?_)
        refine lv_iload hx hb dX10_append_24 (lv_at hl 0 rfl) ?_
        refine lv_iload_n hx hb dX10_append_26 rfl (lv_at hl 3 rfl) ?_
        refine lv_icmp_ge (tgt := 68) hx hb dX10_append_27 (by decide) (fun h => absurd h (by decide)) (fun _ => ?_)
        refine lv_lload_n hx hb dX10_append_30 rfl (lv_at hl 2 rfl) ?_
        refine lv_iload hx hb dX10_append_31 (lv_at hl 0 rfl) ?_
        refine g_Si (n := 2) (As := [.long v, .int 0]) (rest := []) (wr := [(h0, .inr (10, [.ref (ad 0), .int 0, .int (-1), .int (-1), .ref (ad 1), .ref (ad 2), .ref (ad 3), .ref (ad 4), .ref (ad 5), .ref (ad 6), .ref (ad 7), .ref (ad 8)])), (ad 0, .inl (dA 2, 480, .inl (fun _ => 0)))]) hx hb hml hg hown hK hP hD hS hA (c_X10_byteOf l D dA v 0 _) [] [0, 1] rfl (by decide) rfl (by decide) (by decide) q749 q149 q747 q748 (by decide +kernel) ⟨(Nat.le_of_ble_eq_true rfl), (Nat.le_of_ble_eq_true rfl)⟩ rfl hl.1 rfl (Nat.le_of_ble_eq_true rfl) dX10_append_33 ⟨(Nat.le_of_ble_eq_true rfl), (Nat.le_of_ble_eq_true rfl)⟩ (fun r58 u57 H locs w59 hP hD hS => ?_)
        refine W.widen (k := 0) (n := 0) (Nat.le_of_ble_eq_true rfl) (Nat.le_of_ble_eq_true rfl) ?_
        have hP : va_P D vwC [(h0, .inr (10, [.ref (ad 0), .int 0, .int (-1), .int (-1), .ref (ad 1), .ref (ad 2), .ref (ad 3), .ref (ad 4), .ref (ad 5), .ref (ad 6), .ref (ad 7), .ref (ad 8)])), (ad 0, .inl (dA 2, 480, .inl (fun _ => 0)))] H := hP
        have hD : va_D A [(h0, .inr (10, [.ref (ad 0), .int 0, .int (-1), .int (-1), .ref (ad 1), .ref (ad 2), .ref (ad 3), .ref (ad 4), .ref (ad 5), .ref (ad 6), .ref (ad 7), .ref (ad 8)])), (ad 0, .inl (dA 2, 480, .inl (fun _ => 0)))] := hD
        obtain rfl : r58 = bC v 0 := w59
        refine lv_istore (lv' := [(5, .int (bC v 0)), (4, .int 0), (0, .ref h0), (1, .long v), (3, .int 4)]) hx hb dX10_append_36 hl (by decide) rfl (fun ls hl => ?_)
        refine lv_iload hx hb dX10_append_38 (lv_at hl 0 rfl) ?_
        refine lv_bipush (v := 32) hx hb dX10_append_40 (by decide) ?_
        refine lv_icmp_lt (tgt := 52) hx hb dX10_append_42 (by decide) (fun k60 => ?_) (fun k60 => ?_)
        · exact g_thr (cls := xIAE) (is := 101) (text := "a byte is not 32 .. 126") hx hb hg htr hown (by decide) q731 q167 (by decide +kernel) atIAE (by decide +kernel) hZ hS hml hl.1 hnt hlocks dX10_append_52 dX10_append_55 dX10_append_56 dX10_append_58 dX10_append_61 (Nat.le_of_ble_eq_true rfl) (Nat.le_of_ble_eq_true rfl) (Nat.le_of_ble_eq_true rfl) (Nat.le_of_ble_eq_true rfl) (Nat.le_of_ble_eq_true rfl) (Nat.le_of_ble_eq_true rfl) ⟨rfl, (fun h => by have h := h.2; rw [apI_4] at h; exact h.1.1 k60)⟩
        · refine lv_iload hx hb dX10_append_45 (lv_at hl 0 rfl) ?_
          refine lv_bipush (v := 126) hx hb dX10_append_47 (by decide) ?_
          refine lv_icmp_le (tgt := 62) hx hb dX10_append_49 (by decide) (fun k61 => ?_) (fun k61 => ?_)
          · refine lv_iinc (v := 1) (lv' := [(4, .int 1), (5, .int (bC v 0)), (0, .ref h0), (1, .long v), (3, .int 4)]) hx hb dX10_append_62 hl (k := 1) rfl (by decide) (by decide) rfl (fun ls hl => ?_)
            refine lv_goto (tgt := 24) hx hb dX10_append_65 (by decide) ?_
            refine lv_iload hx hb dX10_append_24 (lv_at hl 0 rfl) ?_
            refine lv_iload_n hx hb dX10_append_26 rfl (lv_at hl 4 rfl) ?_
            refine lv_icmp_ge (tgt := 68) hx hb dX10_append_27 (by decide) (fun h => absurd h (by decide)) (fun _ => ?_)
            refine lv_lload_n hx hb dX10_append_30 rfl (lv_at hl 3 rfl) ?_
            refine lv_iload hx hb dX10_append_31 (lv_at hl 0 rfl) ?_
            refine g_Si (n := 2) (As := [.long v, .int 1]) (rest := []) (wr := [(h0, .inr (10, [.ref (ad 0), .int 0, .int (-1), .int (-1), .ref (ad 1), .ref (ad 2), .ref (ad 3), .ref (ad 4), .ref (ad 5), .ref (ad 6), .ref (ad 7), .ref (ad 8)])), (ad 0, .inl (dA 2, 480, .inl (fun _ => 0)))]) hx hb hml hg hown hK hP hD hS hA (c_X10_byteOf l D dA v 1 _) [] [0, 1] rfl (by decide) rfl (by decide) (by decide) q749 q149 q747 q748 (by decide +kernel) ⟨(Nat.le_of_ble_eq_true rfl), (Nat.le_of_ble_eq_true rfl)⟩ rfl hl.1 rfl (Nat.le_of_ble_eq_true rfl) dX10_append_33 ⟨(Nat.le_of_ble_eq_true rfl), (Nat.le_of_ble_eq_true rfl)⟩ (fun r63 u62 H locs w64 hP hD hS => ?_)
            refine W.widen (k := 0) (n := 0) (Nat.le_of_ble_eq_true rfl) (Nat.le_of_ble_eq_true rfl) ?_
            have hP : va_P D vwC [(h0, .inr (10, [.ref (ad 0), .int 0, .int (-1), .int (-1), .ref (ad 1), .ref (ad 2), .ref (ad 3), .ref (ad 4), .ref (ad 5), .ref (ad 6), .ref (ad 7), .ref (ad 8)])), (ad 0, .inl (dA 2, 480, .inl (fun _ => 0)))] H := hP
            have hD : va_D A [(h0, .inr (10, [.ref (ad 0), .int 0, .int (-1), .int (-1), .ref (ad 1), .ref (ad 2), .ref (ad 3), .ref (ad 4), .ref (ad 5), .ref (ad 6), .ref (ad 7), .ref (ad 8)])), (ad 0, .inl (dA 2, 480, .inl (fun _ => 0)))] := hD
            obtain rfl : r63 = bC v 1 := w64
            refine lv_istore (lv' := [(5, .int (bC v 1)), (4, .int 1), (0, .ref h0), (1, .long v), (3, .int 4)]) hx hb dX10_append_36 hl (by decide) rfl (fun ls hl => ?_)
            refine lv_iload hx hb dX10_append_38 (lv_at hl 0 rfl) ?_
            refine lv_bipush (v := 32) hx hb dX10_append_40 (by decide) ?_
            refine lv_icmp_lt (tgt := 52) hx hb dX10_append_42 (by decide) (fun k65 => ?_) (fun k65 => ?_)
            · exact g_thr (cls := xIAE) (is := 101) (text := "a byte is not 32 .. 126") hx hb hg htr hown (by decide) q731 q167 (by decide +kernel) atIAE (by decide +kernel) hZ hS hml hl.1 hnt hlocks dX10_append_52 dX10_append_55 dX10_append_56 dX10_append_58 dX10_append_61 (Nat.le_of_ble_eq_true rfl) (Nat.le_of_ble_eq_true rfl) (Nat.le_of_ble_eq_true rfl) (Nat.le_of_ble_eq_true rfl) (Nat.le_of_ble_eq_true rfl) (Nat.le_of_ble_eq_true rfl) ⟨rfl, (fun h => by have h := h.2; rw [apI_4] at h; exact h.2.1.1 k65)⟩
            · refine lv_iload hx hb dX10_append_45 (lv_at hl 0 rfl) ?_
              refine lv_bipush (v := 126) hx hb dX10_append_47 (by decide) ?_
              refine lv_icmp_le (tgt := 62) hx hb dX10_append_49 (by decide) (fun k66 => ?_) (fun k66 => ?_)
              · refine lv_iinc (v := 2) (lv' := [(4, .int 2), (5, .int (bC v 1)), (0, .ref h0), (1, .long v), (3, .int 4)]) hx hb dX10_append_62 hl (k := 1) rfl (by decide) (by decide) rfl (fun ls hl => ?_)
                refine lv_goto (tgt := 24) hx hb dX10_append_65 (by decide) ?_
                refine lv_iload hx hb dX10_append_24 (lv_at hl 0 rfl) ?_
                refine lv_iload_n hx hb dX10_append_26 rfl (lv_at hl 4 rfl) ?_
                refine lv_icmp_ge (tgt := 68) hx hb dX10_append_27 (by decide) (fun h => absurd h (by decide)) (fun _ => ?_)
                refine lv_lload_n hx hb dX10_append_30 rfl (lv_at hl 3 rfl) ?_
                refine lv_iload hx hb dX10_append_31 (lv_at hl 0 rfl) ?_
                refine g_Si (n := 2) (As := [.long v, .int 2]) (rest := []) (wr := [(h0, .inr (10, [.ref (ad 0), .int 0, .int (-1), .int (-1), .ref (ad 1), .ref (ad 2), .ref (ad 3), .ref (ad 4), .ref (ad 5), .ref (ad 6), .ref (ad 7), .ref (ad 8)])), (ad 0, .inl (dA 2, 480, .inl (fun _ => 0)))]) hx hb hml hg hown hK hP hD hS hA (c_X10_byteOf l D dA v 2 _) [] [0, 1] rfl (by decide) rfl (by decide) (by decide) q749 q149 q747 q748 (by decide +kernel) ⟨(Nat.le_of_ble_eq_true rfl), (Nat.le_of_ble_eq_true rfl)⟩ rfl hl.1 rfl (Nat.le_of_ble_eq_true rfl) dX10_append_33 ⟨(Nat.le_of_ble_eq_true rfl), (Nat.le_of_ble_eq_true rfl)⟩ (fun r68 u67 H locs w69 hP hD hS => ?_)
                refine W.widen (k := 0) (n := 0) (Nat.le_of_ble_eq_true rfl) (Nat.le_of_ble_eq_true rfl) ?_
                have hP : va_P D vwC [(h0, .inr (10, [.ref (ad 0), .int 0, .int (-1), .int (-1), .ref (ad 1), .ref (ad 2), .ref (ad 3), .ref (ad 4), .ref (ad 5), .ref (ad 6), .ref (ad 7), .ref (ad 8)])), (ad 0, .inl (dA 2, 480, .inl (fun _ => 0)))] H := hP
                have hD : va_D A [(h0, .inr (10, [.ref (ad 0), .int 0, .int (-1), .int (-1), .ref (ad 1), .ref (ad 2), .ref (ad 3), .ref (ad 4), .ref (ad 5), .ref (ad 6), .ref (ad 7), .ref (ad 8)])), (ad 0, .inl (dA 2, 480, .inl (fun _ => 0)))] := hD
                obtain rfl : r68 = bC v 2 := w69
                refine lv_istore (lv' := [(5, .int (bC v 2)), (4, .int 2), (0, .ref h0), (1, .long v), (3, .int 4)]) hx hb dX10_append_36 hl (by decide) rfl (fun ls hl => ?_)
                refine lv_iload hx hb dX10_append_38 (lv_at hl 0 rfl) ?_
                refine lv_bipush (v := 32) hx hb dX10_append_40 (by decide) ?_
                refine lv_icmp_lt (tgt := 52) hx hb dX10_append_42 (by decide) (fun k70 => ?_) (fun k70 => ?_)
                · exact g_thr (cls := xIAE) (is := 101) (text := "a byte is not 32 .. 126") hx hb hg htr hown (by decide) q731 q167 (by decide +kernel) atIAE (by decide +kernel) hZ hS hml hl.1 hnt hlocks dX10_append_52 dX10_append_55 dX10_append_56 dX10_append_58 dX10_append_61 (Nat.le_of_ble_eq_true rfl) (Nat.le_of_ble_eq_true rfl) (Nat.le_of_ble_eq_true rfl) (Nat.le_of_ble_eq_true rfl) (Nat.le_of_ble_eq_true rfl) (Nat.le_of_ble_eq_true rfl) ⟨rfl, (fun h => by have h := h.2; rw [apI_4] at h; exact h.2.2.1.1 k70)⟩
                · refine lv_iload hx hb dX10_append_45 (lv_at hl 0 rfl) ?_
                  refine lv_bipush (v := 126) hx hb dX10_append_47 (by decide) ?_
                  refine lv_icmp_le (tgt := 62) hx hb dX10_append_49 (by decide) (fun k71 => ?_) (fun k71 => ?_)
                  · refine lv_iinc (v := 3) (lv' := [(4, .int 3), (5, .int (bC v 2)), (0, .ref h0), (1, .long v), (3, .int 4)]) hx hb dX10_append_62 hl (k := 1) rfl (by decide) (by decide) rfl (fun ls hl => ?_)
                    refine lv_goto (tgt := 24) hx hb dX10_append_65 (by decide) ?_
                    refine lv_iload hx hb dX10_append_24 (lv_at hl 0 rfl) ?_
                    refine lv_iload_n hx hb dX10_append_26 rfl (lv_at hl 4 rfl) ?_
                    refine lv_icmp_ge (tgt := 68) hx hb dX10_append_27 (by decide) (fun h => absurd h (by decide)) (fun _ => ?_)
                    refine lv_lload_n hx hb dX10_append_30 rfl (lv_at hl 3 rfl) ?_
                    refine lv_iload hx hb dX10_append_31 (lv_at hl 0 rfl) ?_
                    refine g_Si (n := 2) (As := [.long v, .int 3]) (rest := []) (wr := [(h0, .inr (10, [.ref (ad 0), .int 0, .int (-1), .int (-1), .ref (ad 1), .ref (ad 2), .ref (ad 3), .ref (ad 4), .ref (ad 5), .ref (ad 6), .ref (ad 7), .ref (ad 8)])), (ad 0, .inl (dA 2, 480, .inl (fun _ => 0)))]) hx hb hml hg hown hK hP hD hS hA (c_X10_byteOf l D dA v 3 _) [] [0, 1] rfl (by decide) rfl (by decide) (by decide) q749 q149 q747 q748 (by decide +kernel) ⟨(Nat.le_of_ble_eq_true rfl), (Nat.le_of_ble_eq_true rfl)⟩ rfl hl.1 rfl (Nat.le_of_ble_eq_true rfl) dX10_append_33 ⟨(Nat.le_of_ble_eq_true rfl), (Nat.le_of_ble_eq_true rfl)⟩ (fun r73 u72 H locs w74 hP hD hS => ?_)
                    refine W.widen (k := 0) (n := 0) (Nat.le_of_ble_eq_true rfl) (Nat.le_of_ble_eq_true rfl) ?_
                    have hP : va_P D vwC [(h0, .inr (10, [.ref (ad 0), .int 0, .int (-1), .int (-1), .ref (ad 1), .ref (ad 2), .ref (ad 3), .ref (ad 4), .ref (ad 5), .ref (ad 6), .ref (ad 7), .ref (ad 8)])), (ad 0, .inl (dA 2, 480, .inl (fun _ => 0)))] H := hP
                    have hD : va_D A [(h0, .inr (10, [.ref (ad 0), .int 0, .int (-1), .int (-1), .ref (ad 1), .ref (ad 2), .ref (ad 3), .ref (ad 4), .ref (ad 5), .ref (ad 6), .ref (ad 7), .ref (ad 8)])), (ad 0, .inl (dA 2, 480, .inl (fun _ => 0)))] := hD
                    obtain rfl : r73 = bC v 3 := w74
                    refine lv_istore (lv' := [(5, .int (bC v 3)), (4, .int 3), (0, .ref h0), (1, .long v), (3, .int 4)]) hx hb dX10_append_36 hl (by decide) rfl (fun ls hl => ?_)
                    refine lv_iload hx hb dX10_append_38 (lv_at hl 0 rfl) ?_
                    refine lv_bipush (v := 32) hx hb dX10_append_40 (by decide) ?_
                    refine lv_icmp_lt (tgt := 52) hx hb dX10_append_42 (by decide) (fun k75 => ?_) (fun k75 => ?_)
                    · exact g_thr (cls := xIAE) (is := 101) (text := "a byte is not 32 .. 126") hx hb hg htr hown (by decide) q731 q167 (by decide +kernel) atIAE (by decide +kernel) hZ hS hml hl.1 hnt hlocks dX10_append_52 dX10_append_55 dX10_append_56 dX10_append_58 dX10_append_61 (Nat.le_of_ble_eq_true rfl) (Nat.le_of_ble_eq_true rfl) (Nat.le_of_ble_eq_true rfl) (Nat.le_of_ble_eq_true rfl) (Nat.le_of_ble_eq_true rfl) (Nat.le_of_ble_eq_true rfl) ⟨rfl, (fun h => by have h := h.2; rw [apI_4] at h; exact h.2.2.2.1.1 k75)⟩
                    · refine lv_iload hx hb dX10_append_45 (lv_at hl 0 rfl) ?_
                      refine lv_bipush (v := 126) hx hb dX10_append_47 (by decide) ?_
                      refine lv_icmp_le (tgt := 62) hx hb dX10_append_49 (by decide) (fun k76 => ?_) (fun k76 => ?_)
                      · refine lv_iinc (v := 4) (lv' := [(4, .int 4), (5, .int (bC v 3)), (0, .ref h0), (1, .long v), (3, .int 4)]) hx hb dX10_append_62 hl (k := 1) rfl (by decide) (by decide) rfl (fun ls hl => ?_)
                        refine lv_goto (tgt := 24) hx hb dX10_append_65 (by decide) ?_
                        refine lv_iload hx hb dX10_append_24 (lv_at hl 0 rfl) ?_
                        refine lv_iload_n hx hb dX10_append_26 rfl (lv_at hl 4 rfl) ?_
                        refine lv_icmp_ge (tgt := 68) hx hb dX10_append_27 (by decide) (fun _ => ?_) (fun h => absurd (by decide) h)
                        refine lv_aload_n hx hb dX10_append_68 rfl (lv_at hl 2 rfl) ?_
                        refine g_get hx hb hg hown hK hP 0 rfl rfl inX10 1 (by decide) q607 rfl dX10_append_69 ?_
                        refine lv_iload_n hx hb dX10_append_72 rfl (lv_at hl 4 rfl) ?_
                        refine lv_iadd hx hb dX10_append_73 ?_
                        refine g_nrm (y := 4) (by decide) ?_
                        refine lv_sipush (v := 480) hx hb dX10_append_74 (by decide) ?_
                        refine lv_icmp_le (tgt := 90) hx hb dX10_append_77 (by decide) (fun _ => ?_) (fun h => absurd (by decide) h)
                        refine lv_iload_n hx hb dX10_append_90 rfl (lv_at hl 4 rfl) ?_
                        refine lv_iconst (v := 1) hx hb dX10_append_91 (by decide) ?_
                        refine lv_isub hx hb dX10_append_92 ?_
                        refine g_nrm (y := 3) (by decide) ?_
                        refine lv_istore (lv' := [(4, .int 3), (5, .int (bC v 3)), (0, .ref h0), (1, .long v), (3, .int 4)]) hx hb dX10_append_93 hl (by decide) rfl (fun ls hl => ?_)
                        refine lv_iload hx hb dX10_append_95 (lv_at hl 0 rfl) ?_
                        refine lv_if_lt (tgt := 132) hx hb dX10_append_97 (by decide) (fun h => absurd h (by decide)) (fun _ => ?_)
                        refine lv_aload_n hx hb dX10_append_100 rfl (lv_at hl 2 rfl) ?_
                        refine g_get hx hb hg hown hK hP 0 rfl rfl inX10 0 (by decide) q606 rfl dX10_append_101 ?_
                        refine lv_aload_n hx hb dX10_append_104 rfl (lv_at hl 2 rfl) ?_
                        refine g_get hx hb hg hown hK hP 0 rfl rfl inX10 1 (by decide) q607 rfl dX10_append_105 ?_
                        refine lv_lload_n hx hb dX10_append_108 rfl (lv_at hl 3 rfl) ?_
                        refine lv_iload hx hb dX10_append_109 (lv_at hl 0 rfl) ?_
                        refine g_Si (n := 2) (As := [.long v, .int 3]) (rest := [.int 0, .ref (ad 0)]) (wr := [(h0, .inr (10, [.ref (ad 0), .int 0, .int (-1), .int (-1), .ref (ad 1), .ref (ad 2), .ref (ad 3), .ref (ad 4), .ref (ad 5), .ref (ad 6), .ref (ad 7), .ref (ad 8)])), (ad 0, .inl (dA 2, 480, .inl (fun _ => 0)))]) hx hb hml hg hown hK hP hD hS hA (c_X10_byteOf l D dA v 3 _) [] [0, 1] rfl (by decide) rfl (by decide) (by decide) q749 q149 q747 q748 (by decide +kernel) ⟨(Nat.le_of_ble_eq_true rfl), (Nat.le_of_ble_eq_true rfl)⟩ rfl hl.1 rfl (Nat.le_of_ble_eq_true rfl) dX10_append_111 ⟨(Nat.le_of_ble_eq_true rfl), (Nat.le_of_ble_eq_true rfl)⟩ (fun r78 u77 H locs w79 hP hD hS => ?_)
                        refine W.widen (k := 0) (n := 0) (Nat.le_of_ble_eq_true rfl) (Nat.le_of_ble_eq_true rfl) ?_
                        have hP : va_P D vwC [(h0, .inr (10, [.ref (ad 0), .int 0, .int (-1), .int (-1), .ref (ad 1), .ref (ad 2), .ref (ad 3), .ref (ad 4), .ref (ad 5), .ref (ad 6), .ref (ad 7), .ref (ad 8)])), (ad 0, .inl (dA 2, 480, .inl (fun _ => 0)))] H := hP
                        have hD : va_D A [(h0, .inr (10, [.ref (ad 0), .int 0, .int (-1), .int (-1), .ref (ad 1), .ref (ad 2), .ref (ad 3), .ref (ad 4), .ref (ad 5), .ref (ad 6), .ref (ad 7), .ref (ad 8)])), (ad 0, .inl (dA 2, 480, .inl (fun _ => 0)))] := hD
                        obtain rfl : r78 = bC v 3 := w79
                        refine lv_i2c (v := (((bC v 3).toUInt32 % 65536).toInt32)) hx hb dX10_append_114 rfl ?_
                        refine va_cast hx hb hK hP hD hS 1 2 rfl rfl (by unfold vp_in; decide) dX10_append_115 (fun H locs hP hD hS => ?_)
                        have hP : va_P D vwC [(h0, .inr (10, [.ref (ad 0), .int 0, .int (-1), .int (-1), .ref (ad 1), .ref (ad 2), .ref (ad 3), .ref (ad 4), .ref (ad 5), .ref (ad 6), .ref (ad 7), .ref (ad 8)])), (ad 0, .inl (dA 2, 480, .inl (upd (fun _ => 0) (0 : Int32).toNatClampNeg (vp_nar .char (((bC v 3).toUInt32 % 65536).toInt32)))))] H := hP
                        have hD : va_D A [(h0, .inr (10, [.ref (ad 0), .int 0, .int (-1), .int (-1), .ref (ad 1), .ref (ad 2), .ref (ad 3), .ref (ad 4), .ref (ad 5), .ref (ad 6), .ref (ad 7), .ref (ad 8)])), (ad 0, .inl (dA 2, 480, .inl (upd (fun _ => 0) (0 : Int32).toNatClampNeg (vp_nar .char (((bC v 3).toUInt32 % 65536).toInt32)))))] := hD
                        generalize (upd (fun _ => 0) (0 : Int32).toNatClampNeg (vp_nar .char (((bC v 3).toUInt32 % 65536).toInt32))) = f80 at hP hD
                        refine lv_aload_n hx hb dX10_append_116 rfl (lv_at hl 2 rfl) ?_
                        refine lv_dup hx hb dX10_append_117 rfl ?_
                        refine g_get hx hb hg hown hK hP 0 rfl rfl inX10 1 (by decide) q607 rfl dX10_append_118 ?_
                        refine lv_iconst (v := 1) hx hb dX10_append_121 (by decide) ?_
                        refine lv_iadd hx hb dX10_append_122 ?_
                        refine g_nrm (y := 1) (by decide) ?_
                        refine g_put (w' := [(h0, .inr (10, [.ref (ad 0), .int 1, .int (-1), .int (-1), .ref (ad 1), .ref (ad 2), .ref (ad 3), .ref (ad 4), .ref (ad 5), .ref (ad 6), .ref (ad 7), .ref (ad 8)])), (ad 0, .inl (dA 2, 480, .inl f80))]) hx hb hg hown hK hP hD hS 0 rfl rfl inX10 tyX10_ok nmX10 1 (by decide) q607 rfl rfl rfl (Nat.le_of_ble_eq_true rfl) rfl dX10_append_123 (fun H locs hP hD hS => ?_)
                        refine lv_iinc (v := 2) (lv' := [(4, .int 2), (5, .int (bC v 3)), (0, .ref h0), (1, .long v), (3, .int 4)]) hx hb dX10_append_126 hl (k := 0) rfl (by decide) (by decide) rfl (fun ls hl => ?_)
                        refine lv_goto (tgt := 95) hx hb dX10_append_129 (by decide) ?_
                        refine lv_iload hx hb dX10_append_95 (lv_at hl 0 rfl) ?_
                        refine lv_if_lt (tgt := 132) hx hb dX10_append_97 (by decide) (fun h => absurd h (by decide)) (fun _ => ?_)
                        refine lv_aload_n hx hb dX10_append_100 rfl (lv_at hl 2 rfl) ?_
                        refine g_get hx hb hg hown hK hP 0 rfl rfl inX10 0 (by decide) q606 rfl dX10_append_101 ?_
                        refine lv_aload_n hx hb dX10_append_104 rfl (lv_at hl 2 rfl) ?_
                        refine g_get hx hb hg hown hK hP 0 rfl rfl inX10 1 (by decide) q607 rfl dX10_append_105 ?_
                        refine lv_lload_n hx hb dX10_append_108 rfl (lv_at hl 3 rfl) ?_
                        refine lv_iload hx hb dX10_append_109 (lv_at hl 0 rfl) ?_
                        refine g_Si (n := 2) (As := [.long v, .int 2]) (rest := [.int 1, .ref (ad 0)]) (wr := [(h0, .inr (10, [.ref (ad 0), .int 1, .int (-1), .int (-1), .ref (ad 1), .ref (ad 2), .ref (ad 3), .ref (ad 4), .ref (ad 5), .ref (ad 6), .ref (ad 7), .ref (ad 8)])), (ad 0, .inl (dA 2, 480, .inl f80))]) hx hb hml hg hown hK hP hD hS hA (c_X10_byteOf l D dA v 2 _) [] [0, 1] rfl (by decide) rfl (by decide) (by decide) q749 q149 q747 q748 (by decide +kernel) ⟨(Nat.le_of_ble_eq_true rfl), (Nat.le_of_ble_eq_true rfl)⟩ rfl hl.1 rfl (Nat.le_of_ble_eq_true rfl) dX10_append_111 ⟨(Nat.le_of_ble_eq_true rfl), (Nat.le_of_ble_eq_true rfl)⟩ (fun r82 u81 H locs w83 hP hD hS => ?_)
                        refine W.widen (k := 0) (n := 0) (Nat.le_of_ble_eq_true rfl) (Nat.le_of_ble_eq_true rfl) ?_
                        have hP : va_P D vwC [(h0, .inr (10, [.ref (ad 0), .int 1, .int (-1), .int (-1), .ref (ad 1), .ref (ad 2), .ref (ad 3), .ref (ad 4), .ref (ad 5), .ref (ad 6), .ref (ad 7), .ref (ad 8)])), (ad 0, .inl (dA 2, 480, .inl f80))] H := hP
                        have hD : va_D A [(h0, .inr (10, [.ref (ad 0), .int 1, .int (-1), .int (-1), .ref (ad 1), .ref (ad 2), .ref (ad 3), .ref (ad 4), .ref (ad 5), .ref (ad 6), .ref (ad 7), .ref (ad 8)])), (ad 0, .inl (dA 2, 480, .inl f80))] := hD
                        obtain rfl : r82 = bC v 2 := w83
                        refine lv_i2c (v := (((bC v 2).toUInt32 % 65536).toInt32)) hx hb dX10_append_114 rfl ?_
                        refine va_cast hx hb hK hP hD hS 1 2 rfl rfl (by unfold vp_in; decide) dX10_append_115 (fun H locs hP hD hS => ?_)
                        have hP : va_P D vwC [(h0, .inr (10, [.ref (ad 0), .int 1, .int (-1), .int (-1), .ref (ad 1), .ref (ad 2), .ref (ad 3), .ref (ad 4), .ref (ad 5), .ref (ad 6), .ref (ad 7), .ref (ad 8)])), (ad 0, .inl (dA 2, 480, .inl (upd f80 (1 : Int32).toNatClampNeg (vp_nar .char (((bC v 2).toUInt32 % 65536).toInt32)))))] H := hP
                        have hD : va_D A [(h0, .inr (10, [.ref (ad 0), .int 1, .int (-1), .int (-1), .ref (ad 1), .ref (ad 2), .ref (ad 3), .ref (ad 4), .ref (ad 5), .ref (ad 6), .ref (ad 7), .ref (ad 8)])), (ad 0, .inl (dA 2, 480, .inl (upd f80 (1 : Int32).toNatClampNeg (vp_nar .char (((bC v 2).toUInt32 % 65536).toInt32)))))] := hD
                        generalize (upd f80 (1 : Int32).toNatClampNeg (vp_nar .char (((bC v 2).toUInt32 % 65536).toInt32))) = f84 at hP hD
                        refine lv_aload_n hx hb dX10_append_116 rfl (lv_at hl 2 rfl) ?_
                        refine lv_dup hx hb dX10_append_117 rfl ?_
                        refine g_get hx hb hg hown hK hP 0 rfl rfl inX10 1 (by decide) q607 rfl dX10_append_118 ?_
                        refine lv_iconst (v := 1) hx hb dX10_append_121 (by decide) ?_
                        refine lv_iadd hx hb dX10_append_122 ?_
                        refine g_nrm (y := 2) (by decide) ?_
                        refine g_put (w' := [(h0, .inr (10, [.ref (ad 0), .int 2, .int (-1), .int (-1), .ref (ad 1), .ref (ad 2), .ref (ad 3), .ref (ad 4), .ref (ad 5), .ref (ad 6), .ref (ad 7), .ref (ad 8)])), (ad 0, .inl (dA 2, 480, .inl f84))]) hx hb hg hown hK hP hD hS 0 rfl rfl inX10 tyX10_ok nmX10 1 (by decide) q607 rfl rfl rfl (Nat.le_of_ble_eq_true rfl) rfl dX10_append_123 (fun H locs hP hD hS => ?_)
                        refine lv_iinc (v := 1) (lv' := [(4, .int 1), (5, .int (bC v 3)), (0, .ref h0), (1, .long v), (3, .int 4)]) hx hb dX10_append_126 hl (k := 0) rfl (by decide) (by decide) rfl (fun ls hl => ?_)
                        refine lv_goto (tgt := 95) hx hb dX10_append_129 (by decide) ?_
                        refine lv_iload hx hb dX10_append_95 (lv_at hl 0 rfl) ?_
                        refine lv_if_lt (tgt := 132) hx hb dX10_append_97 (by decide) (fun h => absurd h (by decide)) (fun _ => ?_)
                        refine lv_aload_n hx hb dX10_append_100 rfl (lv_at hl 2 rfl) ?_
                        refine g_get hx hb hg hown hK hP 0 rfl rfl inX10 0 (by decide) q606 rfl dX10_append_101 ?_
                        refine lv_aload_n hx hb dX10_append_104 rfl (lv_at hl 2 rfl) ?_
                        refine g_get hx hb hg hown hK hP 0 rfl rfl inX10 1 (by decide) q607 rfl dX10_append_105 ?_
                        refine lv_lload_n hx hb dX10_append_108 rfl (lv_at hl 3 rfl) ?_
                        refine lv_iload hx hb dX10_append_109 (lv_at hl 0 rfl) ?_
                        refine g_Si (n := 2) (As := [.long v, .int 1]) (rest := [.int 2, .ref (ad 0)]) (wr := [(h0, .inr (10, [.ref (ad 0), .int 2, .int (-1), .int (-1), .ref (ad 1), .ref (ad 2), .ref (ad 3), .ref (ad 4), .ref (ad 5), .ref (ad 6), .ref (ad 7), .ref (ad 8)])), (ad 0, .inl (dA 2, 480, .inl f84))]) hx hb hml hg hown hK hP hD hS hA (c_X10_byteOf l D dA v 1 _) [] [0, 1] rfl (by decide) rfl (by decide) (by decide) q749 q149 q747 q748 (by decide +kernel) ⟨(Nat.le_of_ble_eq_true rfl), (Nat.le_of_ble_eq_true rfl)⟩ rfl hl.1 rfl (Nat.le_of_ble_eq_true rfl) dX10_append_111 ⟨(Nat.le_of_ble_eq_true rfl), (Nat.le_of_ble_eq_true rfl)⟩ (fun r86 u85 H locs w87 hP hD hS => ?_)
                        refine W.widen (k := 0) (n := 0) (Nat.le_of_ble_eq_true rfl) (Nat.le_of_ble_eq_true rfl) ?_
                        have hP : va_P D vwC [(h0, .inr (10, [.ref (ad 0), .int 2, .int (-1), .int (-1), .ref (ad 1), .ref (ad 2), .ref (ad 3), .ref (ad 4), .ref (ad 5), .ref (ad 6), .ref (ad 7), .ref (ad 8)])), (ad 0, .inl (dA 2, 480, .inl f84))] H := hP
                        have hD : va_D A [(h0, .inr (10, [.ref (ad 0), .int 2, .int (-1), .int (-1), .ref (ad 1), .ref (ad 2), .ref (ad 3), .ref (ad 4), .ref (ad 5), .ref (ad 6), .ref (ad 7), .ref (ad 8)])), (ad 0, .inl (dA 2, 480, .inl f84))] := hD
                        obtain rfl : r86 = bC v 1 := w87
                        refine lv_i2c (v := (((bC v 1).toUInt32 % 65536).toInt32)) hx hb dX10_append_114 rfl ?_
                        refine va_cast hx hb hK hP hD hS 1 2 rfl rfl (by unfold vp_in; decide) dX10_append_115 (fun H locs hP hD hS => ?_)
                        have hP : va_P D vwC [(h0, .inr (10, [.ref (ad 0), .int 2, .int (-1), .int (-1), .ref (ad 1), .ref (ad 2), .ref (ad 3), .ref (ad 4), .ref (ad 5), .ref (ad 6), .ref (ad 7), .ref (ad 8)])), (ad 0, .inl (dA 2, 480, .inl (upd f84 (2 : Int32).toNatClampNeg (vp_nar .char (((bC v 1).toUInt32 % 65536).toInt32)))))] H := hP
                        have hD : va_D A [(h0, .inr (10, [.ref (ad 0), .int 2, .int (-1), .int (-1), .ref (ad 1), .ref (ad 2), .ref (ad 3), .ref (ad 4), .ref (ad 5), .ref (ad 6), .ref (ad 7), .ref (ad 8)])), (ad 0, .inl (dA 2, 480, .inl (upd f84 (2 : Int32).toNatClampNeg (vp_nar .char (((bC v 1).toUInt32 % 65536).toInt32)))))] := hD
                        generalize (upd f84 (2 : Int32).toNatClampNeg (vp_nar .char (((bC v 1).toUInt32 % 65536).toInt32))) = f88 at hP hD
                        refine lv_aload_n hx hb dX10_append_116 rfl (lv_at hl 2 rfl) ?_
                        refine lv_dup hx hb dX10_append_117 rfl ?_
                        refine g_get hx hb hg hown hK hP 0 rfl rfl inX10 1 (by decide) q607 rfl dX10_append_118 ?_
                        refine lv_iconst (v := 1) hx hb dX10_append_121 (by decide) ?_
                        refine lv_iadd hx hb dX10_append_122 ?_
                        refine g_nrm (y := 3) (by decide) ?_
                        refine g_put (w' := [(h0, .inr (10, [.ref (ad 0), .int 3, .int (-1), .int (-1), .ref (ad 1), .ref (ad 2), .ref (ad 3), .ref (ad 4), .ref (ad 5), .ref (ad 6), .ref (ad 7), .ref (ad 8)])), (ad 0, .inl (dA 2, 480, .inl f88))]) hx hb hg hown hK hP hD hS 0 rfl rfl inX10 tyX10_ok nmX10 1 (by decide) q607 rfl rfl rfl (Nat.le_of_ble_eq_true rfl) rfl dX10_append_123 (fun H locs hP hD hS => ?_)
                        refine lv_iinc (v := 0) (lv' := [(4, .int 0), (5, .int (bC v 3)), (0, .ref h0), (1, .long v), (3, .int 4)]) hx hb dX10_append_126 hl (k := 0) rfl (by decide) (by decide) rfl (fun ls hl => ?_)
                        refine lv_goto (tgt := 95) hx hb dX10_append_129 (by decide) ?_
                        refine lv_iload hx hb dX10_append_95 (lv_at hl 0 rfl) ?_
                        refine lv_if_lt (tgt := 132) hx hb dX10_append_97 (by decide) (fun h => absurd h (by decide)) (fun _ => ?_)
                        refine lv_aload_n hx hb dX10_append_100 rfl (lv_at hl 2 rfl) ?_
                        refine g_get hx hb hg hown hK hP 0 rfl rfl inX10 0 (by decide) q606 rfl dX10_append_101 ?_
                        refine lv_aload_n hx hb dX10_append_104 rfl (lv_at hl 2 rfl) ?_
                        refine g_get hx hb hg hown hK hP 0 rfl rfl inX10 1 (by decide) q607 rfl dX10_append_105 ?_
                        refine lv_lload_n hx hb dX10_append_108 rfl (lv_at hl 3 rfl) ?_
                        refine lv_iload hx hb dX10_append_109 (lv_at hl 0 rfl) ?_
                        refine g_Si (n := 2) (As := [.long v, .int 0]) (rest := [.int 3, .ref (ad 0)]) (wr := [(h0, .inr (10, [.ref (ad 0), .int 3, .int (-1), .int (-1), .ref (ad 1), .ref (ad 2), .ref (ad 3), .ref (ad 4), .ref (ad 5), .ref (ad 6), .ref (ad 7), .ref (ad 8)])), (ad 0, .inl (dA 2, 480, .inl f88))]) hx hb hml hg hown hK hP hD hS hA (c_X10_byteOf l D dA v 0 _) [] [0, 1] rfl (by decide) rfl (by decide) (by decide) q749 q149 q747 q748 (by decide +kernel) ⟨(Nat.le_of_ble_eq_true rfl), (Nat.le_of_ble_eq_true rfl)⟩ rfl hl.1 rfl (Nat.le_of_ble_eq_true rfl) dX10_append_111 ⟨(Nat.le_of_ble_eq_true rfl), (Nat.le_of_ble_eq_true rfl)⟩ (fun r90 u89 H locs w91 hP hD hS => ?_)
                        refine W.widen (k := 0) (n := 0) (Nat.le_of_ble_eq_true rfl) (Nat.le_of_ble_eq_true rfl) ?_
                        have hP : va_P D vwC [(h0, .inr (10, [.ref (ad 0), .int 3, .int (-1), .int (-1), .ref (ad 1), .ref (ad 2), .ref (ad 3), .ref (ad 4), .ref (ad 5), .ref (ad 6), .ref (ad 7), .ref (ad 8)])), (ad 0, .inl (dA 2, 480, .inl f88))] H := hP
                        have hD : va_D A [(h0, .inr (10, [.ref (ad 0), .int 3, .int (-1), .int (-1), .ref (ad 1), .ref (ad 2), .ref (ad 3), .ref (ad 4), .ref (ad 5), .ref (ad 6), .ref (ad 7), .ref (ad 8)])), (ad 0, .inl (dA 2, 480, .inl f88))] := hD
                        obtain rfl : r90 = bC v 0 := w91
                        refine lv_i2c (v := (((bC v 0).toUInt32 % 65536).toInt32)) hx hb dX10_append_114 rfl ?_
                        refine va_cast hx hb hK hP hD hS 1 2 rfl rfl (by unfold vp_in; decide) dX10_append_115 (fun H locs hP hD hS => ?_)
                        have hP : va_P D vwC [(h0, .inr (10, [.ref (ad 0), .int 3, .int (-1), .int (-1), .ref (ad 1), .ref (ad 2), .ref (ad 3), .ref (ad 4), .ref (ad 5), .ref (ad 6), .ref (ad 7), .ref (ad 8)])), (ad 0, .inl (dA 2, 480, .inl (upd f88 (3 : Int32).toNatClampNeg (vp_nar .char (((bC v 0).toUInt32 % 65536).toInt32)))))] H := hP
                        have hD : va_D A [(h0, .inr (10, [.ref (ad 0), .int 3, .int (-1), .int (-1), .ref (ad 1), .ref (ad 2), .ref (ad 3), .ref (ad 4), .ref (ad 5), .ref (ad 6), .ref (ad 7), .ref (ad 8)])), (ad 0, .inl (dA 2, 480, .inl (upd f88 (3 : Int32).toNatClampNeg (vp_nar .char (((bC v 0).toUInt32 % 65536).toInt32)))))] := hD
                        generalize (upd f88 (3 : Int32).toNatClampNeg (vp_nar .char (((bC v 0).toUInt32 % 65536).toInt32))) = f92 at hP hD
                        refine lv_aload_n hx hb dX10_append_116 rfl (lv_at hl 2 rfl) ?_
                        refine lv_dup hx hb dX10_append_117 rfl ?_
                        refine g_get hx hb hg hown hK hP 0 rfl rfl inX10 1 (by decide) q607 rfl dX10_append_118 ?_
                        refine lv_iconst (v := 1) hx hb dX10_append_121 (by decide) ?_
                        refine lv_iadd hx hb dX10_append_122 ?_
                        refine g_nrm (y := 4) (by decide) ?_
                        refine g_put (w' := [(h0, .inr (10, [.ref (ad 0), .int 4, .int (-1), .int (-1), .ref (ad 1), .ref (ad 2), .ref (ad 3), .ref (ad 4), .ref (ad 5), .ref (ad 6), .ref (ad 7), .ref (ad 8)])), (ad 0, .inl (dA 2, 480, .inl f92))]) hx hb hg hown hK hP hD hS 0 rfl rfl inX10 tyX10_ok nmX10 1 (by decide) q607 rfl rfl rfl (Nat.le_of_ble_eq_true rfl) rfl dX10_append_123 (fun H locs hP hD hS => ?_)
                        refine lv_iinc (v := (-1)) (lv' := [(4, .int (-1)), (5, .int (bC v 3)), (0, .ref h0), (1, .long v), (3, .int 4)]) hx hb dX10_append_126 hl (k := 0) rfl (by decide) (by decide) rfl (fun ls hl => ?_)
                        refine lv_goto (tgt := 95) hx hb dX10_append_129 (by decide) ?_
                        refine lv_iload hx hb dX10_append_95 (lv_at hl 0 rfl) ?_
                        refine lv_if_lt (tgt := 132) hx hb dX10_append_97 (by decide) (fun _ => ?_) (fun h => absurd (by decide) h)
                        refine lv_aload_n hx hb dX10_append_132 rfl (lv_at hl 2 rfl) ?_
                        refine g_get hx hb hg hown hK hP 0 rfl rfl inX10 1 (by decide) q607 rfl dX10_append_133 ?_
                        exact vx_ret (g_iret hx hb hr rfl hlocks hK () (hP.sub [] rfl) (hD.sub [] rfl rfl) hS ⟨rfl, by unfold gIn; decide, by rw [apI_4]; exact ⟨⟨k60, k61⟩, ⟨k65, k66⟩, ⟨k70, k71⟩, ⟨k75, k76⟩, trivial⟩⟩ (Nat.le_of_ble_eq_true rfl) (Nat.le_of_ble_eq_true rfl) dX10_append_136)
                      · exact g_thr (cls := xIAE) (is := 101) (text := "a byte is not 32 .. 126") hx hb hg htr hown (by decide) q731 q167 (by decide +kernel) atIAE (by decide +kernel) hZ hS hml hl.1 hnt hlocks dX10_append_52 dX10_append_55 dX10_append_56 dX10_append_58 dX10_append_61 (Nat.le_of_ble_eq_true rfl) (Nat.le_of_ble_eq_true rfl) (Nat.le_of_ble_eq_true rfl) (Nat.le_of_ble_eq_true rfl) (Nat.le_of_ble_eq_true rfl) (Nat.le_of_ble_eq_true rfl) ⟨rfl, (fun h => by have h := h.2; rw [apI_4] at h; exact k76 h.2.2.2.1.2)⟩
                  · exact g_thr (cls := xIAE) (is := 101) (text := "a byte is not 32 .. 126") hx hb hg htr hown (by decide) q731 q167 (by decide +kernel) atIAE (by decide +kernel) hZ hS hml hl.1 hnt hlocks dX10_append_52 dX10_append_55 dX10_append_56 dX10_append_58 dX10_append_61 (Nat.le_of_ble_eq_true rfl) (Nat.le_of_ble_eq_true rfl) (Nat.le_of_ble_eq_true rfl) (Nat.le_of_ble_eq_true rfl) (Nat.le_of_ble_eq_true rfl) (Nat.le_of_ble_eq_true rfl) ⟨rfl, (fun h => by have h := h.2; rw [apI_4] at h; exact k71 h.2.2.1.2)⟩
              · exact g_thr (cls := xIAE) (is := 101) (text := "a byte is not 32 .. 126") hx hb hg htr hown (by decide) q731 q167 (by decide +kernel) atIAE (by decide +kernel) hZ hS hml hl.1 hnt hlocks dX10_append_52 dX10_append_55 dX10_append_56 dX10_append_58 dX10_append_61 (Nat.le_of_ble_eq_true rfl) (Nat.le_of_ble_eq_true rfl) (Nat.le_of_ble_eq_true rfl) (Nat.le_of_ble_eq_true rfl) (Nat.le_of_ble_eq_true rfl) (Nat.le_of_ble_eq_true rfl) ⟨rfl, (fun h => by have h := h.2; rw [apI_4] at h; exact k66 h.2.1.2)⟩
          · exact g_thr (cls := xIAE) (is := 101) (text := "a byte is not 32 .. 126") hx hb hg htr hown (by decide) q731 q167 (by decide +kernel) atIAE (by decide +kernel) hZ hS hml hl.1 hnt hlocks dX10_append_52 dX10_append_55 dX10_append_56 dX10_append_58 dX10_append_61 (Nat.le_of_ble_eq_true rfl) (Nat.le_of_ble_eq_true rfl) (Nat.le_of_ble_eq_true rfl) (Nat.le_of_ble_eq_true rfl) (Nat.le_of_ble_eq_true rfl) (Nat.le_of_ble_eq_true rfl) ⟨rfl, (fun h => by have h := h.2; rw [apI_4] at h; exact k61 h.1.2)⟩
      · refine lv_iconst (v := 0) hx hb dX10_append_21 (by decide) ?_
        refine lv_istore (lv' := [(4, .int 0), (0, .ref h0), (1, .long v), (3, .int 5)]) hx hb dX10_append_22 hl (by decide) rfl (fun ls hl => ?_)
        refine lv_iload hx hb dX10_append_24 (lv_at hl 0 rfl) ?_
        refine lv_iload_n hx hb dX10_append_26 rfl (lv_at hl 3 rfl) ?_
        refine lv_icmp_ge (tgt := 68) hx hb dX10_append_27 (by decide) (fun h => absurd h (by decide)) (fun _ => ?_)
        refine lv_lload_n hx hb dX10_append_30 rfl (lv_at hl 2 rfl) ?_
        refine lv_iload hx hb dX10_append_31 (lv_at hl 0 rfl) ?_
        refine g_Si (n := 2) (As := [.long v, .int 0]) (rest := []) (wr := [(h0, .inr (10, [.ref (ad 0), .int 0, .int (-1), .int (-1), .ref (ad 1), .ref (ad 2), .ref (ad 3), .ref (ad 4), .ref (ad 5), .ref (ad 6), .ref (ad 7), .ref (ad 8)])), (ad 0, .inl (dA 2, 480, .inl (fun _ => 0)))]) hx hb hml hg hown hK hP hD hS hA (c_X10_byteOf l D dA v 0 _) [] [0, 1] rfl (by decide) rfl (by decide) (by decide) q749 q149 q747 q748 (by decide +kernel) ⟨(Nat.le_of_ble_eq_true rfl), (Nat.le_of_ble_eq_true rfl)⟩ rfl hl.1 rfl (Nat.le_of_ble_eq_true rfl) dX10_append_33 ⟨(Nat.le_of_ble_eq_true rfl), (Nat.le_of_ble_eq_true rfl)⟩ (fun r94 u93 H locs w95 hP hD hS => ?_)
        refine W.widen (k := 0) (n := 0) (Nat.le_of_ble_eq_true rfl) (Nat.le_of_ble_eq_true rfl) ?_
        have hP : va_P D vwC [(h0, .inr (10, [.ref (ad 0), .int 0, .int (-1), .int (-1), .ref (ad 1), .ref (ad 2), .ref (ad 3), .ref (ad 4), .ref (ad 5), .ref (ad 6), .ref (ad 7), .ref (ad 8)])), (ad 0, .inl (dA 2, 480, .inl (fun _ => 0)))] H := hP
        have hD : va_D A [(h0, .inr (10, [.ref (ad 0), .int 0, .int (-1), .int (-1), .ref (ad 1), .ref (ad 2), .ref (ad 3), .ref (ad 4), .ref (ad 5), .ref (ad 6), .ref (ad 7), .ref (ad 8)])), (ad 0, .inl (dA 2, 480, .inl (fun _ => 0)))] := hD
        obtain rfl : r94 = bC v 0 := w95
        refine lv_istore (lv' := [(5, .int (bC v 0)), (4, .int 0), (0, .ref h0), (1, .long v), (3, .int 5)]) hx hb dX10_append_36 hl (by decide) rfl (fun ls hl => ?_)
        refine lv_iload hx hb dX10_append_38 (lv_at hl 0 rfl) ?_
        refine lv_bipush (v := 32) hx hb dX10_append_40 (by decide) ?_
        refine lv_icmp_lt (tgt := 52) hx hb dX10_append_42 (by decide) (fun k96 => ?_) (fun k96 => ?_)
        · exact g_thr (cls := xIAE) (is := 101) (text := "a byte is not 32 .. 126") hx hb hg htr hown (by decide) q731 q167 (by decide +kernel) atIAE (by decide +kernel) hZ hS hml hl.1 hnt hlocks dX10_append_52 dX10_append_55 dX10_append_56 dX10_append_58 dX10_append_61 (Nat.le_of_ble_eq_true rfl) (Nat.le_of_ble_eq_true rfl) (Nat.le_of_ble_eq_true rfl) (Nat.le_of_ble_eq_true rfl) (Nat.le_of_ble_eq_true rfl) (Nat.le_of_ble_eq_true rfl) ⟨rfl, (fun h => by have h := h.2; rw [apI_5] at h; exact h.1.1 k96)⟩
        · refine lv_iload hx hb dX10_append_45 (lv_at hl 0 rfl) ?_
          refine lv_bipush (v := 126) hx hb dX10_append_47 (by decide) ?_
          refine lv_icmp_le (tgt := 62) hx hb dX10_append_49 (by decide) (fun k97 => ?_) (fun k97 => ?_)
          · refine lv_iinc (v := 1) (lv' := [(4, .int 1), (5, .int (bC v 0)), (0, .ref h0), (1, .long v), (3, .int 5)]) hx hb dX10_append_62 hl (k := 1) rfl (by decide) (by decide) rfl (fun ls hl => ?_)
            refine lv_goto (tgt := 24) hx hb dX10_append_65 (by decide) ?_
            refine lv_iload hx hb dX10_append_24 (lv_at hl 0 rfl) ?_
            refine lv_iload_n hx hb dX10_append_26 rfl (lv_at hl 4 rfl) ?_
            refine lv_icmp_ge (tgt := 68) hx hb dX10_append_27 (by decide) (fun h => absurd h (by decide)) (fun _ => ?_)
            refine lv_lload_n hx hb dX10_append_30 rfl (lv_at hl 3 rfl) ?_
            refine lv_iload hx hb dX10_append_31 (lv_at hl 0 rfl) ?_
            refine g_Si (n := 2) (As := [.long v, .int 1]) (rest := []) (wr := [(h0, .inr (10, [.ref (ad 0), .int 0, .int (-1), .int (-1), .ref (ad 1), .ref (ad 2), .ref (ad 3), .ref (ad 4), .ref (ad 5), .ref (ad 6), .ref (ad 7), .ref (ad 8)])), (ad 0, .inl (dA 2, 480, .inl (fun _ => 0)))]) hx hb hml hg hown hK hP hD hS hA (c_X10_byteOf l D dA v 1 _) [] [0, 1] rfl (by decide) rfl (by decide) (by decide) q749 q149 q747 q748 (by decide +kernel) ⟨(Nat.le_of_ble_eq_true rfl), (Nat.le_of_ble_eq_true rfl)⟩ rfl hl.1 rfl (Nat.le_of_ble_eq_true rfl) dX10_append_33 ⟨(Nat.le_of_ble_eq_true rfl), (Nat.le_of_ble_eq_true rfl)⟩ (fun r99 u98 H locs w100 hP hD hS => ?_)
            refine W.widen (k := 0) (n := 0) (Nat.le_of_ble_eq_true rfl) (Nat.le_of_ble_eq_true rfl) ?_
            have hP : va_P D vwC [(h0, .inr (10, [.ref (ad 0), .int 0, .int (-1), .int (-1), .ref (ad 1), .ref (ad 2), .ref (ad 3), .ref (ad 4), .ref (ad 5), .ref (ad 6), .ref (ad 7), .ref (ad 8)])), (ad 0, .inl (dA 2, 480, .inl (fun _ => 0)))] H := hP
            have hD : va_D A [(h0, .inr (10, [.ref (ad 0), .int 0, .int (-1), .int (-1), .ref (ad 1), .ref (ad 2), .ref (ad 3), .ref (ad 4), .ref (ad 5), .ref (ad 6), .ref (ad 7), .ref (ad 8)])), (ad 0, .inl (dA 2, 480, .inl (fun _ => 0)))] := hD
            obtain rfl : r99 = bC v 1 := w100
            refine lv_istore (lv' := [(5, .int (bC v 1)), (4, .int 1), (0, .ref h0), (1, .long v), (3, .int 5)]) hx hb dX10_append_36 hl (by decide) rfl (fun ls hl => ?_)
            refine lv_iload hx hb dX10_append_38 (lv_at hl 0 rfl) ?_
            refine lv_bipush (v := 32) hx hb dX10_append_40 (by decide) ?_
            refine lv_icmp_lt (tgt := 52) hx hb dX10_append_42 (by decide) (fun k101 => ?_) (fun k101 => ?_)
            · exact g_thr (cls := xIAE) (is := 101) (text := "a byte is not 32 .. 126") hx hb hg htr hown (by decide) q731 q167 (by decide +kernel) atIAE (by decide +kernel) hZ hS hml hl.1 hnt hlocks dX10_append_52 dX10_append_55 dX10_append_56 dX10_append_58 dX10_append_61 (Nat.le_of_ble_eq_true rfl) (Nat.le_of_ble_eq_true rfl) (Nat.le_of_ble_eq_true rfl) (Nat.le_of_ble_eq_true rfl) (Nat.le_of_ble_eq_true rfl) (Nat.le_of_ble_eq_true rfl) ⟨rfl, (fun h => by have h := h.2; rw [apI_5] at h; exact h.2.1.1 k101)⟩
            · refine lv_iload hx hb dX10_append_45 (lv_at hl 0 rfl) ?_
              refine lv_bipush (v := 126) hx hb dX10_append_47 (by decide) ?_
              refine lv_icmp_le (tgt := 62) hx hb dX10_append_49 (by decide) (fun k102 => ?_) (fun k102 => ?_)
              · refine lv_iinc (v := 2) (lv' := [(4, .int 2), (5, .int (bC v 1)), (0, .ref h0), (1, .long v), (3, .int 5)]) hx hb dX10_append_62 hl (k := 1) rfl (by decide) (by decide) rfl (fun ls hl => ?_)
                refine lv_goto (tgt := 24) hx hb dX10_append_65 (by decide) ?_
                refine lv_iload hx hb dX10_append_24 (lv_at hl 0 rfl) ?_
                refine lv_iload_n hx hb dX10_append_26 rfl (lv_at hl 4 rfl) ?_
                refine lv_icmp_ge (tgt := 68) hx hb dX10_append_27 (by decide) (fun h => absurd h (by decide)) (fun _ => ?_)
                refine lv_lload_n hx hb dX10_append_30 rfl (lv_at hl 3 rfl) ?_
                refine lv_iload hx hb dX10_append_31 (lv_at hl 0 rfl) ?_
                refine g_Si (n := 2) (As := [.long v, .int 2]) (rest := []) (wr := [(h0, .inr (10, [.ref (ad 0), .int 0, .int (-1), .int (-1), .ref (ad 1), .ref (ad 2), .ref (ad 3), .ref (ad 4), .ref (ad 5), .ref (ad 6), .ref (ad 7), .ref (ad 8)])), (ad 0, .inl (dA 2, 480, .inl (fun _ => 0)))]) hx hb hml hg hown hK hP hD hS hA (c_X10_byteOf l D dA v 2 _) [] [0, 1] rfl (by decide) rfl (by decide) (by decide) q749 q149 q747 q748 (by decide +kernel) ⟨(Nat.le_of_ble_eq_true rfl), (Nat.le_of_ble_eq_true rfl)⟩ rfl hl.1 rfl (Nat.le_of_ble_eq_true rfl) dX10_append_33 ⟨(Nat.le_of_ble_eq_true rfl), (Nat.le_of_ble_eq_true rfl)⟩ (fun r104 u103 H locs w105 hP hD hS => ?_)
                refine W.widen (k := 0) (n := 0) (Nat.le_of_ble_eq_true rfl) (Nat.le_of_ble_eq_true rfl) ?_
                have hP : va_P D vwC [(h0, .inr (10, [.ref (ad 0), .int 0, .int (-1), .int (-1), .ref (ad 1), .ref (ad 2), .ref (ad 3), .ref (ad 4), .ref (ad 5), .ref (ad 6), .ref (ad 7), .ref (ad 8)])), (ad 0, .inl (dA 2, 480, .inl (fun _ => 0)))] H := hP
                have hD : va_D A [(h0, .inr (10, [.ref (ad 0), .int 0, .int (-1), .int (-1), .ref (ad 1), .ref (ad 2), .ref (ad 3), .ref (ad 4), .ref (ad 5), .ref (ad 6), .ref (ad 7), .ref (ad 8)])), (ad 0, .inl (dA 2, 480, .inl (fun _ => 0)))] := hD
                obtain rfl : r104 = bC v 2 := w105
                refine lv_istore (lv' := [(5, .int (bC v 2)), (4, .int 2), (0, .ref h0), (1, .long v), (3, .int 5)]) hx hb dX10_append_36 hl (by decide) rfl (fun ls hl => ?_)
                refine lv_iload hx hb dX10_append_38 (lv_at hl 0 rfl) ?_
                refine lv_bipush (v := 32) hx hb dX10_append_40 (by decide) ?_
                refine lv_icmp_lt (tgt := 52) hx hb dX10_append_42 (by decide) (fun k106 => ?_) (fun k106 => ?_)
                · exact g_thr (cls := xIAE) (is := 101) (text := "a byte is not 32 .. 126") hx hb hg htr hown (by decide) q731 q167 (by decide +kernel) atIAE (by decide +kernel) hZ hS hml hl.1 hnt hlocks dX10_append_52 dX10_append_55 dX10_append_56 dX10_append_58 dX10_append_61 (Nat.le_of_ble_eq_true rfl) (Nat.le_of_ble_eq_true rfl) (Nat.le_of_ble_eq_true rfl) (Nat.le_of_ble_eq_true rfl) (Nat.le_of_ble_eq_true rfl) (Nat.le_of_ble_eq_true rfl) ⟨rfl, (fun h => by have h := h.2; rw [apI_5] at h; exact h.2.2.1.1 k106)⟩
                · refine lv_iload hx hb dX10_append_45 (lv_at hl 0 rfl) ?_
                  refine lv_bipush (v := 126) hx hb dX10_append_47 (by decide) ?_
                  refine lv_icmp_le (tgt := 62) hx hb dX10_append_49 (by decide) (fun k107 => ?_) (fun k107 => ?_)
                  · refine lv_iinc (v := 3) (lv' := [(4, .int 3), (5, .int (bC v 2)), (0, .ref h0), (1, .long v), (3, .int 5)]) hx hb dX10_append_62 hl (k := 1) rfl (by decide) (by decide) rfl (fun ls hl => ?_)
                    refine lv_goto (tgt := 24) hx hb dX10_append_65 (by decide) ?_
                    refine lv_iload hx hb dX10_append_24 (lv_at hl 0 rfl) ?_
                    refine lv_iload_n hx hb dX10_append_26 rfl (lv_at hl 4 rfl) ?_
                    refine lv_icmp_ge (tgt := 68) hx hb dX10_append_27 (by decide) (fun h => absurd h (by decide)) (fun _ => ?_)
                    refine lv_lload_n hx hb dX10_append_30 rfl (lv_at hl 3 rfl) ?_
                    refine lv_iload hx hb dX10_append_31 (lv_at hl 0 rfl) ?_
                    refine g_Si (n := 2) (As := [.long v, .int 3]) (rest := []) (wr := [(h0, .inr (10, [.ref (ad 0), .int 0, .int (-1), .int (-1), .ref (ad 1), .ref (ad 2), .ref (ad 3), .ref (ad 4), .ref (ad 5), .ref (ad 6), .ref (ad 7), .ref (ad 8)])), (ad 0, .inl (dA 2, 480, .inl (fun _ => 0)))]) hx hb hml hg hown hK hP hD hS hA (c_X10_byteOf l D dA v 3 _) [] [0, 1] rfl (by decide) rfl (by decide) (by decide) q749 q149 q747 q748 (by decide +kernel) ⟨(Nat.le_of_ble_eq_true rfl), (Nat.le_of_ble_eq_true rfl)⟩ rfl hl.1 rfl (Nat.le_of_ble_eq_true rfl) dX10_append_33 ⟨(Nat.le_of_ble_eq_true rfl), (Nat.le_of_ble_eq_true rfl)⟩ (fun r109 u108 H locs w110 hP hD hS => ?_)
                    refine W.widen (k := 0) (n := 0) (Nat.le_of_ble_eq_true rfl) (Nat.le_of_ble_eq_true rfl) ?_
                    have hP : va_P D vwC [(h0, .inr (10, [.ref (ad 0), .int 0, .int (-1), .int (-1), .ref (ad 1), .ref (ad 2), .ref (ad 3), .ref (ad 4), .ref (ad 5), .ref (ad 6), .ref (ad 7), .ref (ad 8)])), (ad 0, .inl (dA 2, 480, .inl (fun _ => 0)))] H := hP
                    have hD : va_D A [(h0, .inr (10, [.ref (ad 0), .int 0, .int (-1), .int (-1), .ref (ad 1), .ref (ad 2), .ref (ad 3), .ref (ad 4), .ref (ad 5), .ref (ad 6), .ref (ad 7), .ref (ad 8)])), (ad 0, .inl (dA 2, 480, .inl (fun _ => 0)))] := hD
                    obtain rfl : r109 = bC v 3 := w110
                    refine lv_istore (lv' := [(5, .int (bC v 3)), (4, .int 3), (0, .ref h0), (1, .long v), (3, .int 5)]) hx hb dX10_append_36 hl (by decide) rfl (fun ls hl => ?_)
                    refine lv_iload hx hb dX10_append_38 (lv_at hl 0 rfl) ?_
                    refine lv_bipush (v := 32) hx hb dX10_append_40 (by decide) ?_
                    refine lv_icmp_lt (tgt := 52) hx hb dX10_append_42 (by decide) (fun k111 => ?_) (fun k111 => ?_)
                    · exact g_thr (cls := xIAE) (is := 101) (text := "a byte is not 32 .. 126") hx hb hg htr hown (by decide) q731 q167 (by decide +kernel) atIAE (by decide +kernel) hZ hS hml hl.1 hnt hlocks dX10_append_52 dX10_append_55 dX10_append_56 dX10_append_58 dX10_append_61 (Nat.le_of_ble_eq_true rfl) (Nat.le_of_ble_eq_true rfl) (Nat.le_of_ble_eq_true rfl) (Nat.le_of_ble_eq_true rfl) (Nat.le_of_ble_eq_true rfl) (Nat.le_of_ble_eq_true rfl) ⟨rfl, (fun h => by have h := h.2; rw [apI_5] at h; exact h.2.2.2.1.1 k111)⟩
                    · refine lv_iload hx hb dX10_append_45 (lv_at hl 0 rfl) ?_
                      refine lv_bipush (v := 126) hx hb dX10_append_47 (by decide) ?_
                      refine lv_icmp_le (tgt := 62) hx hb dX10_append_49 (by decide) (fun k112 => ?_) (fun k112 => ?_)
                      · refine lv_iinc (v := 4) (lv' := [(4, .int 4), (5, .int (bC v 3)), (0, .ref h0), (1, .long v), (3, .int 5)]) hx hb dX10_append_62 hl (k := 1) rfl (by decide) (by decide) rfl (fun ls hl => ?_)
                        refine lv_goto (tgt := 24) hx hb dX10_append_65 (by decide) ?_
                        refine lv_iload hx hb dX10_append_24 (lv_at hl 0 rfl) ?_
                        refine lv_iload_n hx hb dX10_append_26 rfl (lv_at hl 4 rfl) ?_
                        refine lv_icmp_ge (tgt := 68) hx hb dX10_append_27 (by decide) (fun h => absurd h (by decide)) (fun _ => ?_)
                        refine lv_lload_n hx hb dX10_append_30 rfl (lv_at hl 3 rfl) ?_
                        refine lv_iload hx hb dX10_append_31 (lv_at hl 0 rfl) ?_
                        refine g_Si (n := 2) (As := [.long v, .int 4]) (rest := []) (wr := [(h0, .inr (10, [.ref (ad 0), .int 0, .int (-1), .int (-1), .ref (ad 1), .ref (ad 2), .ref (ad 3), .ref (ad 4), .ref (ad 5), .ref (ad 6), .ref (ad 7), .ref (ad 8)])), (ad 0, .inl (dA 2, 480, .inl (fun _ => 0)))]) hx hb hml hg hown hK hP hD hS hA (c_X10_byteOf l D dA v 4 _) [] [0, 1] rfl (by decide) rfl (by decide) (by decide) q749 q149 q747 q748 (by decide +kernel) ⟨(Nat.le_of_ble_eq_true rfl), (Nat.le_of_ble_eq_true rfl)⟩ rfl hl.1 rfl (Nat.le_of_ble_eq_true rfl) dX10_append_33 ⟨(Nat.le_of_ble_eq_true rfl), (Nat.le_of_ble_eq_true rfl)⟩ (fun r114 u113 H locs w115 hP hD hS => ?_)
                        refine W.widen (k := 0) (n := 0) (Nat.le_of_ble_eq_true rfl) (Nat.le_of_ble_eq_true rfl) ?_
                        have hP : va_P D vwC [(h0, .inr (10, [.ref (ad 0), .int 0, .int (-1), .int (-1), .ref (ad 1), .ref (ad 2), .ref (ad 3), .ref (ad 4), .ref (ad 5), .ref (ad 6), .ref (ad 7), .ref (ad 8)])), (ad 0, .inl (dA 2, 480, .inl (fun _ => 0)))] H := hP
                        have hD : va_D A [(h0, .inr (10, [.ref (ad 0), .int 0, .int (-1), .int (-1), .ref (ad 1), .ref (ad 2), .ref (ad 3), .ref (ad 4), .ref (ad 5), .ref (ad 6), .ref (ad 7), .ref (ad 8)])), (ad 0, .inl (dA 2, 480, .inl (fun _ => 0)))] := hD
                        obtain rfl : r114 = bC v 4 := w115
                        refine lv_istore (lv' := [(5, .int (bC v 4)), (4, .int 4), (0, .ref h0), (1, .long v), (3, .int 5)]) hx hb dX10_append_36 hl (by decide) rfl (fun ls hl => ?_)
                        refine lv_iload hx hb dX10_append_38 (lv_at hl 0 rfl) ?_
                        refine lv_bipush (v := 32) hx hb dX10_append_40 (by decide) ?_
                        refine lv_icmp_lt (tgt := 52) hx hb dX10_append_42 (by decide) (fun k116 => ?_) (fun k116 => ?_)
                        · exact g_thr (cls := xIAE) (is := 101) (text := "a byte is not 32 .. 126") hx hb hg htr hown (by decide) q731 q167 (by decide +kernel) atIAE (by decide +kernel) hZ hS hml hl.1 hnt hlocks dX10_append_52 dX10_append_55 dX10_append_56 dX10_append_58 dX10_append_61 (Nat.le_of_ble_eq_true rfl) (Nat.le_of_ble_eq_true rfl) (Nat.le_of_ble_eq_true rfl) (Nat.le_of_ble_eq_true rfl) (Nat.le_of_ble_eq_true rfl) (Nat.le_of_ble_eq_true rfl) ⟨rfl, (fun h => by have h := h.2; rw [apI_5] at h; exact h.2.2.2.2.1.1 k116)⟩
                        · refine lv_iload hx hb dX10_append_45 (lv_at hl 0 rfl) ?_
                          refine lv_bipush (v := 126) hx hb dX10_append_47 (by decide) ?_
                          refine lv_icmp_le (tgt := 62) hx hb dX10_append_49 (by decide) (fun k117 => ?_) (fun k117 => ?_)
                          · refine lv_iinc (v := 5) (lv' := [(4, .int 5), (5, .int (bC v 4)), (0, .ref h0), (1, .long v), (3, .int 5)]) hx hb dX10_append_62 hl (k := 1) rfl (by decide) (by decide) rfl (fun ls hl => ?_)
                            refine lv_goto (tgt := 24) hx hb dX10_append_65 (by decide) ?_
                            refine lv_iload hx hb dX10_append_24 (lv_at hl 0 rfl) ?_
                            refine lv_iload_n hx hb dX10_append_26 rfl (lv_at hl 4 rfl) ?_
                            refine lv_icmp_ge (tgt := 68) hx hb dX10_append_27 (by decide) (fun _ => ?_) (fun h => absurd (by decide) h)
                            refine lv_aload_n hx hb dX10_append_68 rfl (lv_at hl 2 rfl) ?_
                            refine g_get hx hb hg hown hK hP 0 rfl rfl inX10 1 (by decide) q607 rfl dX10_append_69 ?_
                            refine lv_iload_n hx hb dX10_append_72 rfl (lv_at hl 4 rfl) ?_
                            refine lv_iadd hx hb dX10_append_73 ?_
                            refine g_nrm (y := 5) (by decide) ?_
                            refine lv_sipush (v := 480) hx hb dX10_append_74 (by decide) ?_
                            refine lv_icmp_le (tgt := 90) hx hb dX10_append_77 (by decide) (fun _ => ?_) (fun h => absurd (by decide) h)
                            refine lv_iload_n hx hb dX10_append_90 rfl (lv_at hl 4 rfl) ?_
                            refine lv_iconst (v := 1) hx hb dX10_append_91 (by decide) ?_
                            refine lv_isub hx hb dX10_append_92 ?_
                            refine g_nrm (y := 4) (by decide) ?_
                            refine lv_istore (lv' := [(4, .int 4), (5, .int (bC v 4)), (0, .ref h0), (1, .long v), (3, .int 5)]) hx hb dX10_append_93 hl (by decide) rfl (fun ls hl => ?_)
                            refine lv_iload hx hb dX10_append_95 (lv_at hl 0 rfl) ?_
                            refine lv_if_lt (tgt := 132) hx hb dX10_append_97 (by decide) (fun h => absurd h (by decide)) (fun _ => ?_)
                            refine lv_aload_n hx hb dX10_append_100 rfl (lv_at hl 2 rfl) ?_
                            refine g_get hx hb hg hown hK hP 0 rfl rfl inX10 0 (by decide) q606 rfl dX10_append_101 ?_
                            refine lv_aload_n hx hb dX10_append_104 rfl (lv_at hl 2 rfl) ?_
                            refine g_get hx hb hg hown hK hP 0 rfl rfl inX10 1 (by decide) q607 rfl dX10_append_105 ?_
                            refine lv_lload_n hx hb dX10_append_108 rfl (lv_at hl 3 rfl) ?_
                            refine lv_iload hx hb dX10_append_109 (lv_at hl 0 rfl) ?_
                            refine g_Si (n := 2) (As := [.long v, .int 4]) (rest := [.int 0, .ref (ad 0)]) (wr := [(h0, .inr (10, [.ref (ad 0), .int 0, .int (-1), .int (-1), .ref (ad 1), .ref (ad 2), .ref (ad 3), .ref (ad 4), .ref (ad 5), .ref (ad 6), .ref (ad 7), .ref (ad 8)])), (ad 0, .inl (dA 2, 480, .inl (fun _ => 0)))]) hx hb hml hg hown hK hP hD hS hA (c_X10_byteOf l D dA v 4 _) [] [0, 1] rfl (by decide) rfl (by decide) (by decide) q749 q149 q747 q748 (by decide +kernel) ⟨(Nat.le_of_ble_eq_true rfl), (Nat.le_of_ble_eq_true rfl)⟩ rfl hl.1 rfl (Nat.le_of_ble_eq_true rfl) dX10_append_111 ⟨(Nat.le_of_ble_eq_true rfl), (Nat.le_of_ble_eq_true rfl)⟩ (fun r119 u118 H locs w120 hP hD hS => ?_)
                            refine W.widen (k := 0) (n := 0) (Nat.le_of_ble_eq_true rfl) (Nat.le_of_ble_eq_true rfl) ?_
                            have hP : va_P D vwC [(h0, .inr (10, [.ref (ad 0), .int 0, .int (-1), .int (-1), .ref (ad 1), .ref (ad 2), .ref (ad 3), .ref (ad 4), .ref (ad 5), .ref (ad 6), .ref (ad 7), .ref (ad 8)])), (ad 0, .inl (dA 2, 480, .inl (fun _ => 0)))] H := hP
                            have hD : va_D A [(h0, .inr (10, [.ref (ad 0), .int 0, .int (-1), .int (-1), .ref (ad 1), .ref (ad 2), .ref (ad 3), .ref (ad 4), .ref (ad 5), .ref (ad 6), .ref (ad 7), .ref (ad 8)])), (ad 0, .inl (dA 2, 480, .inl (fun _ => 0)))] := hD
                            obtain rfl : r119 = bC v 4 := w120
                            refine lv_i2c (v := (((bC v 4).toUInt32 % 65536).toInt32)) hx hb dX10_append_114 rfl ?_
                            refine va_cast hx hb hK hP hD hS 1 2 rfl rfl (by unfold vp_in; decide) dX10_append_115 (fun H locs hP hD hS => ?_)
                            have hP : va_P D vwC [(h0, .inr (10, [.ref (ad 0), .int 0, .int (-1), .int (-1), .ref (ad 1), .ref (ad 2), .ref (ad 3), .ref (ad 4), .ref (ad 5), .ref (ad 6), .ref (ad 7), .ref (ad 8)])), (ad 0, .inl (dA 2, 480, .inl (upd (fun _ => 0) (0 : Int32).toNatClampNeg (vp_nar .char (((bC v 4).toUInt32 % 65536).toInt32)))))] H := hP
                            have hD : va_D A [(h0, .inr (10, [.ref (ad 0), .int 0, .int (-1), .int (-1), .ref (ad 1), .ref (ad 2), .ref (ad 3), .ref (ad 4), .ref (ad 5), .ref (ad 6), .ref (ad 7), .ref (ad 8)])), (ad 0, .inl (dA 2, 480, .inl (upd (fun _ => 0) (0 : Int32).toNatClampNeg (vp_nar .char (((bC v 4).toUInt32 % 65536).toInt32)))))] := hD
                            generalize (upd (fun _ => 0) (0 : Int32).toNatClampNeg (vp_nar .char (((bC v 4).toUInt32 % 65536).toInt32))) = f121 at hP hD
                            refine lv_aload_n hx hb dX10_append_116 rfl (lv_at hl 2 rfl) ?_
                            refine lv_dup hx hb dX10_append_117 rfl ?_
                            refine g_get hx hb hg hown hK hP 0 rfl rfl inX10 1 (by decide) q607 rfl dX10_append_118 ?_
                            refine lv_iconst (v := 1) hx hb dX10_append_121 (by decide) ?_
                            refine lv_iadd hx hb dX10_append_122 ?_
                            refine g_nrm (y := 1) (by decide) ?_
                            refine g_put (w' := [(h0, .inr (10, [.ref (ad 0), .int 1, .int (-1), .int (-1), .ref (ad 1), .ref (ad 2), .ref (ad 3), .ref (ad 4), .ref (ad 5), .ref (ad 6), .ref (ad 7), .ref (ad 8)])), (ad 0, .inl (dA 2, 480, .inl f121))]) hx hb hg hown hK hP hD hS 0 rfl rfl inX10 tyX10_ok nmX10 1 (by decide) q607 rfl rfl rfl (Nat.le_of_ble_eq_true rfl) rfl dX10_append_123 (fun H locs hP hD hS => ?_)
                            refine lv_iinc (v := 3) (lv' := [(4, .int 3), (5, .int (bC v 4)), (0, .ref h0), (1, .long v), (3, .int 5)]) hx hb dX10_append_126 hl (k := 0) rfl (by decide) (by decide) rfl (fun ls hl => ?_)
                            refine lv_goto (tgt := 95) hx hb dX10_append_129 (by decide) ?_
                            refine lv_iload hx hb dX10_append_95 (lv_at hl 0 rfl) ?_
                            refine lv_if_lt (tgt := 132) hx hb dX10_append_97 (by decide) (fun h => absurd h (by decide)) (fun _ => ?_)
                            refine lv_aload_n hx hb dX10_append_100 rfl (lv_at hl 2 rfl) ?_
                            refine g_get hx hb hg hown hK hP 0 rfl rfl inX10 0 (by decide) q606 rfl dX10_append_101 ?_
                            refine lv_aload_n hx hb dX10_append_104 rfl (lv_at hl 2 rfl) ?_
                            refine g_get hx hb hg hown hK hP 0 rfl rfl inX10 1 (by decide) q607 rfl dX10_append_105 ?_
                            refine lv_lload_n hx hb dX10_append_108 rfl (lv_at hl 3 rfl) ?_
                            refine lv_iload hx hb dX10_append_109 (lv_at hl 0 rfl) ?_
                            refine g_Si (n := 2) (As := [.long v, .int 3]) (rest := [.int 1, .ref (ad 0)]) (wr := [(h0, .inr (10, [.ref (ad 0), .int 1, .int (-1), .int (-1), .ref (ad 1), .ref (ad 2), .ref (ad 3), .ref (ad 4), .ref (ad 5), .ref (ad 6), .ref (ad 7), .ref (ad 8)])), (ad 0, .inl (dA 2, 480, .inl f121))]) hx hb hml hg hown hK hP hD hS hA (c_X10_byteOf l D dA v 3 _) [] [0, 1] rfl (by decide) rfl (by decide) (by decide) q749 q149 q747 q748 (by decide +kernel) ⟨(Nat.le_of_ble_eq_true rfl), (Nat.le_of_ble_eq_true rfl)⟩ rfl hl.1 rfl (Nat.le_of_ble_eq_true rfl) dX10_append_111 ⟨(Nat.le_of_ble_eq_true rfl), (Nat.le_of_ble_eq_true rfl)⟩ (fun r123 u122 H locs w124 hP hD hS => ?_)
                            refine W.widen (k := 0) (n := 0) (Nat.le_of_ble_eq_true rfl) (Nat.le_of_ble_eq_true rfl) ?_
                            have hP : va_P D vwC [(h0, .inr (10, [.ref (ad 0), .int 1, .int (-1), .int (-1), .ref (ad 1), .ref (ad 2), .ref (ad 3), .ref (ad 4), .ref (ad 5), .ref (ad 6), .ref (ad 7), .ref (ad 8)])), (ad 0, .inl (dA 2, 480, .inl f121))] H := hP
                            have hD : va_D A [(h0, .inr (10, [.ref (ad 0), .int 1, .int (-1), .int (-1), .ref (ad 1), .ref (ad 2), .ref (ad 3), .ref (ad 4), .ref (ad 5), .ref (ad 6), .ref (ad 7), .ref (ad 8)])), (ad 0, .inl (dA 2, 480, .inl f121))] := hD
                            obtain rfl : r123 = bC v 3 := w124
                            refine lv_i2c (v := (((bC v 3).toUInt32 % 65536).toInt32)) hx hb dX10_append_114 rfl ?_
                            refine va_cast hx hb hK hP hD hS 1 2 rfl rfl (by unfold vp_in; decide) dX10_append_115 (fun H locs hP hD hS => ?_)
                            have hP : va_P D vwC [(h0, .inr (10, [.ref (ad 0), .int 1, .int (-1), .int (-1), .ref (ad 1), .ref (ad 2), .ref (ad 3), .ref (ad 4), .ref (ad 5), .ref (ad 6), .ref (ad 7), .ref (ad 8)])), (ad 0, .inl (dA 2, 480, .inl (upd f121 (1 : Int32).toNatClampNeg (vp_nar .char (((bC v 3).toUInt32 % 65536).toInt32)))))] H := hP
                            have hD : va_D A [(h0, .inr (10, [.ref (ad 0), .int 1, .int (-1), .int (-1), .ref (ad 1), .ref (ad 2), .ref (ad 3), .ref (ad 4), .ref (ad 5), .ref (ad 6), .ref (ad 7), .ref (ad 8)])), (ad 0, .inl (dA 2, 480, .inl (upd f121 (1 : Int32).toNatClampNeg (vp_nar .char (((bC v 3).toUInt32 % 65536).toInt32)))))] := hD
                            generalize (upd f121 (1 : Int32).toNatClampNeg (vp_nar .char (((bC v 3).toUInt32 % 65536).toInt32))) = f125 at hP hD
                            refine lv_aload_n hx hb dX10_append_116 rfl (lv_at hl 2 rfl) ?_
                            refine lv_dup hx hb dX10_append_117 rfl ?_
                            refine g_get hx hb hg hown hK hP 0 rfl rfl inX10 1 (by decide) q607 rfl dX10_append_118 ?_
                            refine lv_iconst (v := 1) hx hb dX10_append_121 (by decide) ?_
                            refine lv_iadd hx hb dX10_append_122 ?_
                            refine g_nrm (y := 2) (by decide) ?_
                            refine g_put (w' := [(h0, .inr (10, [.ref (ad 0), .int 2, .int (-1), .int (-1), .ref (ad 1), .ref (ad 2), .ref (ad 3), .ref (ad 4), .ref (ad 5), .ref (ad 6), .ref (ad 7), .ref (ad 8)])), (ad 0, .inl (dA 2, 480, .inl f125))]) hx hb hg hown hK hP hD hS 0 rfl rfl inX10 tyX10_ok nmX10 1 (by decide) q607 rfl rfl rfl (Nat.le_of_ble_eq_true rfl) rfl dX10_append_123 (fun H locs hP hD hS => ?_)
                            refine lv_iinc (v := 2) (lv' := [(4, .int 2), (5, .int (bC v 4)), (0, .ref h0), (1, .long v), (3, .int 5)]) hx hb dX10_append_126 hl (k := 0) rfl (by decide) (by decide) rfl (fun ls hl => ?_)
                            refine lv_goto (tgt := 95) hx hb dX10_append_129 (by decide) ?_
                            refine lv_iload hx hb dX10_append_95 (lv_at hl 0 rfl) ?_
                            refine lv_if_lt (tgt := 132) hx hb dX10_append_97 (by decide) (fun h => absurd h (by decide)) (fun _ => ?_)
                            refine lv_aload_n hx hb dX10_append_100 rfl (lv_at hl 2 rfl) ?_
                            refine g_get hx hb hg hown hK hP 0 rfl rfl inX10 0 (by decide) q606 rfl dX10_append_101 ?_
                            refine lv_aload_n hx hb dX10_append_104 rfl (lv_at hl 2 rfl) ?_
                            refine g_get hx hb hg hown hK hP 0 rfl rfl inX10 1 (by decide) q607 rfl dX10_append_105 ?_
                            refine lv_lload_n hx hb dX10_append_108 rfl (lv_at hl 3 rfl) ?_
                            refine lv_iload hx hb dX10_append_109 (lv_at hl 0 rfl) ?_
                            refine g_Si (n := 2) (As := [.long v, .int 2]) (rest := [.int 2, .ref (ad 0)]) (wr := [(h0, .inr (10, [.ref (ad 0), .int 2, .int (-1), .int (-1), .ref (ad 1), .ref (ad 2), .ref (ad 3), .ref (ad 4), .ref (ad 5), .ref (ad 6), .ref (ad 7), .ref (ad 8)])), (ad 0, .inl (dA 2, 480, .inl f125))]) hx hb hml hg hown hK hP hD hS hA (c_X10_byteOf l D dA v 2 _) [] [0, 1] rfl (by decide) rfl (by decide) (by decide) q749 q149 q747 q748 (by decide +kernel) ⟨(Nat.le_of_ble_eq_true rfl), (Nat.le_of_ble_eq_true rfl)⟩ rfl hl.1 rfl (Nat.le_of_ble_eq_true rfl) dX10_append_111 ⟨(Nat.le_of_ble_eq_true rfl), (Nat.le_of_ble_eq_true rfl)⟩ (fun r127 u126 H locs w128 hP hD hS => ?_)
                            refine W.widen (k := 0) (n := 0) (Nat.le_of_ble_eq_true rfl) (Nat.le_of_ble_eq_true rfl) ?_
                            have hP : va_P D vwC [(h0, .inr (10, [.ref (ad 0), .int 2, .int (-1), .int (-1), .ref (ad 1), .ref (ad 2), .ref (ad 3), .ref (ad 4), .ref (ad 5), .ref (ad 6), .ref (ad 7), .ref (ad 8)])), (ad 0, .inl (dA 2, 480, .inl f125))] H := hP
                            have hD : va_D A [(h0, .inr (10, [.ref (ad 0), .int 2, .int (-1), .int (-1), .ref (ad 1), .ref (ad 2), .ref (ad 3), .ref (ad 4), .ref (ad 5), .ref (ad 6), .ref (ad 7), .ref (ad 8)])), (ad 0, .inl (dA 2, 480, .inl f125))] := hD
                            obtain rfl : r127 = bC v 2 := w128
                            refine lv_i2c (v := (((bC v 2).toUInt32 % 65536).toInt32)) hx hb dX10_append_114 rfl ?_
                            refine va_cast hx hb hK hP hD hS 1 2 rfl rfl (by unfold vp_in; decide) dX10_append_115 (fun H locs hP hD hS => ?_)
                            have hP : va_P D vwC [(h0, .inr (10, [.ref (ad 0), .int 2, .int (-1), .int (-1), .ref (ad 1), .ref (ad 2), .ref (ad 3), .ref (ad 4), .ref (ad 5), .ref (ad 6), .ref (ad 7), .ref (ad 8)])), (ad 0, .inl (dA 2, 480, .inl (upd f125 (2 : Int32).toNatClampNeg (vp_nar .char (((bC v 2).toUInt32 % 65536).toInt32)))))] H := hP
                            have hD : va_D A [(h0, .inr (10, [.ref (ad 0), .int 2, .int (-1), .int (-1), .ref (ad 1), .ref (ad 2), .ref (ad 3), .ref (ad 4), .ref (ad 5), .ref (ad 6), .ref (ad 7), .ref (ad 8)])), (ad 0, .inl (dA 2, 480, .inl (upd f125 (2 : Int32).toNatClampNeg (vp_nar .char (((bC v 2).toUInt32 % 65536).toInt32)))))] := hD
                            generalize (upd f125 (2 : Int32).toNatClampNeg (vp_nar .char (((bC v 2).toUInt32 % 65536).toInt32))) = f129 at hP hD
                            refine lv_aload_n hx hb dX10_append_116 rfl (lv_at hl 2 rfl) ?_
                            refine lv_dup hx hb dX10_append_117 rfl ?_
                            refine g_get hx hb hg hown hK hP 0 rfl rfl inX10 1 (by decide) q607 rfl dX10_append_118 ?_
                            refine lv_iconst (v := 1) hx hb dX10_append_121 (by decide) ?_
                            refine lv_iadd hx hb dX10_append_122 ?_
                            refine g_nrm (y := 3) (by decide) ?_
                            refine g_put (w' := [(h0, .inr (10, [.ref (ad 0), .int 3, .int (-1), .int (-1), .ref (ad 1), .ref (ad 2), .ref (ad 3), .ref (ad 4), .ref (ad 5), .ref (ad 6), .ref (ad 7), .ref (ad 8)])), (ad 0, .inl (dA 2, 480, .inl f129))]) hx hb hg hown hK hP hD hS 0 rfl rfl inX10 tyX10_ok nmX10 1 (by decide) q607 rfl rfl rfl (Nat.le_of_ble_eq_true rfl) rfl dX10_append_123 (fun H locs hP hD hS => ?_)
                            refine lv_iinc (v := 1) (lv' := [(4, .int 1), (5, .int (bC v 4)), (0, .ref h0), (1, .long v), (3, .int 5)]) hx hb dX10_append_126 hl (k := 0) rfl (by decide) (by decide) rfl (fun ls hl => ?_)
                            refine lv_goto (tgt := 95) hx hb dX10_append_129 (by decide) ?_
                            refine lv_iload hx hb dX10_append_95 (lv_at hl 0 rfl) ?_
                            refine lv_if_lt (tgt := 132) hx hb dX10_append_97 (by decide) (fun h => absurd h (by decide)) (fun _ => ?_)
                            refine lv_aload_n hx hb dX10_append_100 rfl (lv_at hl 2 rfl) ?_
                            refine g_get hx hb hg hown hK hP 0 rfl rfl inX10 0 (by decide) q606 rfl dX10_append_101 ?_
                            refine lv_aload_n hx hb dX10_append_104 rfl (lv_at hl 2 rfl) ?_
                            refine g_get hx hb hg hown hK hP 0 rfl rfl inX10 1 (by decide) q607 rfl dX10_append_105 ?_
                            refine lv_lload_n hx hb dX10_append_108 rfl (lv_at hl 3 rfl) ?_
                            refine lv_iload hx hb dX10_append_109 (lv_at hl 0 rfl) ?_
                            refine g_Si (n := 2) (As := [.long v, .int 1]) (rest := [.int 3, .ref (ad 0)]) (wr := [(h0, .inr (10, [.ref (ad 0), .int 3, .int (-1), .int (-1), .ref (ad 1), .ref (ad 2), .ref (ad 3), .ref (ad 4), .ref (ad 5), .ref (ad 6), .ref (ad 7), .ref (ad 8)])), (ad 0, .inl (dA 2, 480, .inl f129))]) hx hb hml hg hown hK hP hD hS hA (c_X10_byteOf l D dA v 1 _) [] [0, 1] rfl (by decide) rfl (by decide) (by decide) q749 q149 q747 q748 (by decide +kernel) ⟨(Nat.le_of_ble_eq_true rfl), (Nat.le_of_ble_eq_true rfl)⟩ rfl hl.1 rfl (Nat.le_of_ble_eq_true rfl) dX10_append_111 ⟨(Nat.le_of_ble_eq_true rfl), (Nat.le_of_ble_eq_true rfl)⟩ (fun r131 u130 H locs w132 hP hD hS => ?_)
                            refine W.widen (k := 0) (n := 0) (Nat.le_of_ble_eq_true rfl) (Nat.le_of_ble_eq_true rfl) ?_
                            have hP : va_P D vwC [(h0, .inr (10, [.ref (ad 0), .int 3, .int (-1), .int (-1), .ref (ad 1), .ref (ad 2), .ref (ad 3), .ref (ad 4), .ref (ad 5), .ref (ad 6), .ref (ad 7), .ref (ad 8)])), (ad 0, .inl (dA 2, 480, .inl f129))] H := hP
                            have hD : va_D A [(h0, .inr (10, [.ref (ad 0), .int 3, .int (-1), .int (-1), .ref (ad 1), .ref (ad 2), .ref (ad 3), .ref (ad 4), .ref (ad 5), .ref (ad 6), .ref (ad 7), .ref (ad 8)])), (ad 0, .inl (dA 2, 480, .inl f129))] := hD
                            obtain rfl : r131 = bC v 1 := w132
                            refine lv_i2c (v := (((bC v 1).toUInt32 % 65536).toInt32)) hx hb dX10_append_114 rfl ?_
                            refine va_cast hx hb hK hP hD hS 1 2 rfl rfl (by unfold vp_in; decide) dX10_append_115 (fun H locs hP hD hS => ?_)
                            have hP : va_P D vwC [(h0, .inr (10, [.ref (ad 0), .int 3, .int (-1), .int (-1), .ref (ad 1), .ref (ad 2), .ref (ad 3), .ref (ad 4), .ref (ad 5), .ref (ad 6), .ref (ad 7), .ref (ad 8)])), (ad 0, .inl (dA 2, 480, .inl (upd f129 (3 : Int32).toNatClampNeg (vp_nar .char (((bC v 1).toUInt32 % 65536).toInt32)))))] H := hP
                            have hD : va_D A [(h0, .inr (10, [.ref (ad 0), .int 3, .int (-1), .int (-1), .ref (ad 1), .ref (ad 2), .ref (ad 3), .ref (ad 4), .ref (ad 5), .ref (ad 6), .ref (ad 7), .ref (ad 8)])), (ad 0, .inl (dA 2, 480, .inl (upd f129 (3 : Int32).toNatClampNeg (vp_nar .char (((bC v 1).toUInt32 % 65536).toInt32)))))] := hD
                            generalize (upd f129 (3 : Int32).toNatClampNeg (vp_nar .char (((bC v 1).toUInt32 % 65536).toInt32))) = f133 at hP hD
                            refine lv_aload_n hx hb dX10_append_116 rfl (lv_at hl 2 rfl) ?_
                            refine lv_dup hx hb dX10_append_117 rfl ?_
                            refine g_get hx hb hg hown hK hP 0 rfl rfl inX10 1 (by decide) q607 rfl dX10_append_118 ?_
                            refine lv_iconst (v := 1) hx hb dX10_append_121 (by decide) ?_
                            refine lv_iadd hx hb dX10_append_122 ?_
                            refine g_nrm (y := 4) (by decide) ?_
                            refine g_put (w' := [(h0, .inr (10, [.ref (ad 0), .int 4, .int (-1), .int (-1), .ref (ad 1), .ref (ad 2), .ref (ad 3), .ref (ad 4), .ref (ad 5), .ref (ad 6), .ref (ad 7), .ref (ad 8)])), (ad 0, .inl (dA 2, 480, .inl f133))]) hx hb hg hown hK hP hD hS 0 rfl rfl inX10 tyX10_ok nmX10 1 (by decide) q607 rfl rfl rfl (Nat.le_of_ble_eq_true rfl) rfl dX10_append_123 (fun H locs hP hD hS => ?_)
                            refine lv_iinc (v := 0) (lv' := [(4, .int 0), (5, .int (bC v 4)), (0, .ref h0), (1, .long v), (3, .int 5)]) hx hb dX10_append_126 hl (k := 0) rfl (by decide) (by decide) rfl (fun ls hl => ?_)
                            refine lv_goto (tgt := 95) hx hb dX10_append_129 (by decide) ?_
                            refine lv_iload hx hb dX10_append_95 (lv_at hl 0 rfl) ?_
                            refine lv_if_lt (tgt := 132) hx hb dX10_append_97 (by decide) (fun h => absurd h (by decide)) (fun _ => ?_)
                            refine lv_aload_n hx hb dX10_append_100 rfl (lv_at hl 2 rfl) ?_
                            refine g_get hx hb hg hown hK hP 0 rfl rfl inX10 0 (by decide) q606 rfl dX10_append_101 ?_
                            refine lv_aload_n hx hb dX10_append_104 rfl (lv_at hl 2 rfl) ?_
                            refine g_get hx hb hg hown hK hP 0 rfl rfl inX10 1 (by decide) q607 rfl dX10_append_105 ?_
                            refine lv_lload_n hx hb dX10_append_108 rfl (lv_at hl 3 rfl) ?_
                            refine lv_iload hx hb dX10_append_109 (lv_at hl 0 rfl) ?_
                            refine g_Si (n := 2) (As := [.long v, .int 0]) (rest := [.int 4, .ref (ad 0)]) (wr := [(h0, .inr (10, [.ref (ad 0), .int 4, .int (-1), .int (-1), .ref (ad 1), .ref (ad 2), .ref (ad 3), .ref (ad 4), .ref (ad 5), .ref (ad 6), .ref (ad 7), .ref (ad 8)])), (ad 0, .inl (dA 2, 480, .inl f133))]) hx hb hml hg hown hK hP hD hS hA (c_X10_byteOf l D dA v 0 _) [] [0, 1] rfl (by decide) rfl (by decide) (by decide) q749 q149 q747 q748 (by decide +kernel) ⟨(Nat.le_of_ble_eq_true rfl), (Nat.le_of_ble_eq_true rfl)⟩ rfl hl.1 rfl (Nat.le_of_ble_eq_true rfl) dX10_append_111 ⟨(Nat.le_of_ble_eq_true rfl), (Nat.le_of_ble_eq_true rfl)⟩ (fun r135 u134 H locs w136 hP hD hS => ?_)
                            refine W.widen (k := 0) (n := 0) (Nat.le_of_ble_eq_true rfl) (Nat.le_of_ble_eq_true rfl) ?_
                            have hP : va_P D vwC [(h0, .inr (10, [.ref (ad 0), .int 4, .int (-1), .int (-1), .ref (ad 1), .ref (ad 2), .ref (ad 3), .ref (ad 4), .ref (ad 5), .ref (ad 6), .ref (ad 7), .ref (ad 8)])), (ad 0, .inl (dA 2, 480, .inl f133))] H := hP
                            have hD : va_D A [(h0, .inr (10, [.ref (ad 0), .int 4, .int (-1), .int (-1), .ref (ad 1), .ref (ad 2), .ref (ad 3), .ref (ad 4), .ref (ad 5), .ref (ad 6), .ref (ad 7), .ref (ad 8)])), (ad 0, .inl (dA 2, 480, .inl f133))] := hD
                            obtain rfl : r135 = bC v 0 := w136
                            refine lv_i2c (v := (((bC v 0).toUInt32 % 65536).toInt32)) hx hb dX10_append_114 rfl ?_
                            refine va_cast hx hb hK hP hD hS 1 2 rfl rfl (by unfold vp_in; decide) dX10_append_115 (fun H locs hP hD hS => ?_)
                            have hP : va_P D vwC [(h0, .inr (10, [.ref (ad 0), .int 4, .int (-1), .int (-1), .ref (ad 1), .ref (ad 2), .ref (ad 3), .ref (ad 4), .ref (ad 5), .ref (ad 6), .ref (ad 7), .ref (ad 8)])), (ad 0, .inl (dA 2, 480, .inl (upd f133 (4 : Int32).toNatClampNeg (vp_nar .char (((bC v 0).toUInt32 % 65536).toInt32)))))] H := hP
                            have hD : va_D A [(h0, .inr (10, [.ref (ad 0), .int 4, .int (-1), .int (-1), .ref (ad 1), .ref (ad 2), .ref (ad 3), .ref (ad 4), .ref (ad 5), .ref (ad 6), .ref (ad 7), .ref (ad 8)])), (ad 0, .inl (dA 2, 480, .inl (upd f133 (4 : Int32).toNatClampNeg (vp_nar .char (((bC v 0).toUInt32 % 65536).toInt32)))))] := hD
                            generalize (upd f133 (4 : Int32).toNatClampNeg (vp_nar .char (((bC v 0).toUInt32 % 65536).toInt32))) = f137 at hP hD
                            refine lv_aload_n hx hb dX10_append_116 rfl (lv_at hl 2 rfl) ?_
                            refine lv_dup hx hb dX10_append_117 rfl ?_
                            refine g_get hx hb hg hown hK hP 0 rfl rfl inX10 1 (by decide) q607 rfl dX10_append_118 ?_
                            refine lv_iconst (v := 1) hx hb dX10_append_121 (by decide) ?_
                            refine lv_iadd hx hb dX10_append_122 ?_
                            refine g_nrm (y := 5) (by decide) ?_
                            refine g_put (w' := [(h0, .inr (10, [.ref (ad 0), .int 5, .int (-1), .int (-1), .ref (ad 1), .ref (ad 2), .ref (ad 3), .ref (ad 4), .ref (ad 5), .ref (ad 6), .ref (ad 7), .ref (ad 8)])), (ad 0, .inl (dA 2, 480, .inl f137))]) hx hb hg hown hK hP hD hS 0 rfl rfl inX10 tyX10_ok nmX10 1 (by decide) q607 rfl rfl rfl (Nat.le_of_ble_eq_true rfl) rfl dX10_append_123 (fun H locs hP hD hS => ?_)
                            refine lv_iinc (v := (-1)) (lv' := [(4, .int (-1)), (5, .int (bC v 4)), (0, .ref h0), (1, .long v), (3, .int 5)]) hx hb dX10_append_126 hl (k := 0) rfl (by decide) (by decide) rfl (fun ls hl => ?_)
                            refine lv_goto (tgt := 95) hx hb dX10_append_129 (by decide) ?_
                            refine lv_iload hx hb dX10_append_95 (lv_at hl 0 rfl) ?_
                            refine lv_if_lt (tgt := 132) hx hb dX10_append_97 (by decide) (fun _ => ?_) (fun h => absurd (by decide) h)
                            refine lv_aload_n hx hb dX10_append_132 rfl (lv_at hl 2 rfl) ?_
                            refine g_get hx hb hg hown hK hP 0 rfl rfl inX10 1 (by decide) q607 rfl dX10_append_133 ?_
                            exact vx_ret (g_iret hx hb hr rfl hlocks hK () (hP.sub [] rfl) (hD.sub [] rfl rfl) hS ⟨rfl, by unfold gIn; decide, by rw [apI_5]; exact ⟨⟨k96, k97⟩, ⟨k101, k102⟩, ⟨k106, k107⟩, ⟨k111, k112⟩, ⟨k116, k117⟩, trivial⟩⟩ (Nat.le_of_ble_eq_true rfl) (Nat.le_of_ble_eq_true rfl) dX10_append_136)
                          · exact g_thr (cls := xIAE) (is := 101) (text := "a byte is not 32 .. 126") hx hb hg htr hown (by decide) q731 q167 (by decide +kernel) atIAE (by decide +kernel) hZ hS hml hl.1 hnt hlocks dX10_append_52 dX10_append_55 dX10_append_56 dX10_append_58 dX10_append_61 (Nat.le_of_ble_eq_true rfl) (Nat.le_of_ble_eq_true rfl) (Nat.le_of_ble_eq_true rfl) (Nat.le_of_ble_eq_true rfl) (Nat.le_of_ble_eq_true rfl) (Nat.le_of_ble_eq_true rfl) ⟨rfl, (fun h => by have h := h.2; rw [apI_5] at h; exact k117 h.2.2.2.2.1.2)⟩
                      · exact g_thr (cls := xIAE) (is := 101) (text := "a byte is not 32 .. 126") hx hb hg htr hown (by decide) q731 q167 (by decide +kernel) atIAE (by decide +kernel) hZ hS hml hl.1 hnt hlocks dX10_append_52 dX10_append_55 dX10_append_56 dX10_append_58 dX10_append_61 (Nat.le_of_ble_eq_true rfl) (Nat.le_of_ble_eq_true rfl) (Nat.le_of_ble_eq_true rfl) (Nat.le_of_ble_eq_true rfl) (Nat.le_of_ble_eq_true rfl) (Nat.le_of_ble_eq_true rfl) ⟨rfl, (fun h => by have h := h.2; rw [apI_5] at h; exact k112 h.2.2.2.1.2)⟩
                  · exact g_thr (cls := xIAE) (is := 101) (text := "a byte is not 32 .. 126") hx hb hg htr hown (by decide) q731 q167 (by decide +kernel) atIAE (by decide +kernel) hZ hS hml hl.1 hnt hlocks dX10_append_52 dX10_append_55 dX10_append_56 dX10_append_58 dX10_append_61 (Nat.le_of_ble_eq_true rfl) (Nat.le_of_ble_eq_true rfl) (Nat.le_of_ble_eq_true rfl) (Nat.le_of_ble_eq_true rfl) (Nat.le_of_ble_eq_true rfl) (Nat.le_of_ble_eq_true rfl) ⟨rfl, (fun h => by have h := h.2; rw [apI_5] at h; exact k107 h.2.2.1.2)⟩
              · exact g_thr (cls := xIAE) (is := 101) (text := "a byte is not 32 .. 126") hx hb hg htr hown (by decide) q731 q167 (by decide +kernel) atIAE (by decide +kernel) hZ hS hml hl.1 hnt hlocks dX10_append_52 dX10_append_55 dX10_append_56 dX10_append_58 dX10_append_61 (Nat.le_of_ble_eq_true rfl) (Nat.le_of_ble_eq_true rfl) (Nat.le_of_ble_eq_true rfl) (Nat.le_of_ble_eq_true rfl) (Nat.le_of_ble_eq_true rfl) (Nat.le_of_ble_eq_true rfl) ⟨rfl, (fun h => by have h := h.2; rw [apI_5] at h; exact k102 h.2.1.2)⟩
          · exact g_thr (cls := xIAE) (is := 101) (text := "a byte is not 32 .. 126") hx hb hg htr hown (by decide) q731 q167 (by decide +kernel) atIAE (by decide +kernel) hZ hS hml hl.1 hnt hlocks dX10_append_52 dX10_append_55 dX10_append_56 dX10_append_58 dX10_append_61 (Nat.le_of_ble_eq_true rfl) (Nat.le_of_ble_eq_true rfl) (Nat.le_of_ble_eq_true rfl) (Nat.le_of_ble_eq_true rfl) (Nat.le_of_ble_eq_true rfl) (Nat.le_of_ble_eq_true rfl) ⟨rfl, (fun h => by have h := h.2; rw [apI_5] at h; exact k97 h.1.2)⟩
      · refine lv_iconst (v := 0) hx hb dX10_append_21 (by decide) ?_
        refine lv_istore (lv' := [(4, .int 0), (0, .ref h0), (1, .long v), (3, .int 6)]) hx hb dX10_append_22 hl (by decide) rfl (fun ls hl => ?_)
        refine lv_iload hx hb dX10_append_24 (lv_at hl 0 rfl) ?_
        refine lv_iload_n hx hb dX10_append_26 rfl (lv_at hl 3 rfl) ?_
        refine lv_icmp_ge (tgt := 68) hx hb dX10_append_27 (by decide) (fun h => absurd h (by decide)) (fun _ => ?_)
        refine lv_lload_n hx hb dX10_append_30 rfl (lv_at hl 2 rfl) ?_
        refine lv_iload hx hb dX10_append_31 (lv_at hl 0 rfl) ?_
        refine g_Si (n := 2) (As := [.long v, .int 0]) (rest := []) (wr := [(h0, .inr (10, [.ref (ad 0), .int 0, .int (-1), .int (-1), .ref (ad 1), .ref (ad 2), .ref (ad 3), .ref (ad 4), .ref (ad 5), .ref (ad 6), .ref (ad 7), .ref (ad 8)])), (ad 0, .inl (dA 2, 480, .inl (fun _ => 0)))]) hx hb hml hg hown hK hP hD hS hA (c_X10_byteOf l D dA v 0 _) [] [0, 1] rfl (by decide) rfl (by decide) (by decide) q749 q149 q747 q748 (by decide +kernel) ⟨(Nat.le_of_ble_eq_true rfl), (Nat.le_of_ble_eq_true rfl)⟩ rfl hl.1 rfl (Nat.le_of_ble_eq_true rfl) dX10_append_33 ⟨(Nat.le_of_ble_eq_true rfl), (Nat.le_of_ble_eq_true rfl)⟩ (fun r139 u138 H locs w140 hP hD hS => ?_)
        refine W.widen (k := 0) (n := 0) (Nat.le_of_ble_eq_true rfl) (Nat.le_of_ble_eq_true rfl) ?_
        have hP : va_P D vwC [(h0, .inr (10, [.ref (ad 0), .int 0, .int (-1), .int (-1), .ref (ad 1), .ref (ad 2), .ref (ad 3), .ref (ad 4), .ref (ad 5), .ref (ad 6), .ref (ad 7), .ref (ad 8)])), (ad 0, .inl (dA 2, 480, .inl (fun _ => 0)))] H := hP
        have hD : va_D A [(h0, .inr (10, [.ref (ad 0), .int 0, .int (-1), .int (-1), .ref (ad 1), .ref (ad 2), .ref (ad 3), .ref (ad 4), .ref (ad 5), .ref (ad 6), .ref (ad 7), .ref (ad 8)])), (ad 0, .inl (dA 2, 480, .inl (fun _ => 0)))] := hD
        obtain rfl : r139 = bC v 0 := w140
        refine lv_istore (lv' := [(5, .int (bC v 0)), (4, .int 0), (0, .ref h0), (1, .long v), (3, .int 6)]) hx hb dX10_append_36 hl (by decide) rfl (fun ls hl => ?_)
        refine lv_iload hx hb dX10_append_38 (lv_at hl 0 rfl) ?_
        refine lv_bipush (v := 32) hx hb dX10_append_40 (by decide) ?_
        refine lv_icmp_lt (tgt := 52) hx hb dX10_append_42 (by decide) (fun k141 => ?_) (fun k141 => ?_)
        · exact g_thr (cls := xIAE) (is := 101) (text := "a byte is not 32 .. 126") hx hb hg htr hown (by decide) q731 q167 (by decide +kernel) atIAE (by decide +kernel) hZ hS hml hl.1 hnt hlocks dX10_append_52 dX10_append_55 dX10_append_56 dX10_append_58 dX10_append_61 (Nat.le_of_ble_eq_true rfl) (Nat.le_of_ble_eq_true rfl) (Nat.le_of_ble_eq_true rfl) (Nat.le_of_ble_eq_true rfl) (Nat.le_of_ble_eq_true rfl) (Nat.le_of_ble_eq_true rfl) ⟨rfl, (fun h => by have h := h.2; rw [apI_6] at h; exact h.1.1 k141)⟩
        · refine lv_iload hx hb dX10_append_45 (lv_at hl 0 rfl) ?_
          refine lv_bipush (v := 126) hx hb dX10_append_47 (by decide) ?_
          refine lv_icmp_le (tgt := 62) hx hb dX10_append_49 (by decide) (fun k142 => ?_) (fun k142 => ?_)
          · refine lv_iinc (v := 1) (lv' := [(4, .int 1), (5, .int (bC v 0)), (0, .ref h0), (1, .long v), (3, .int 6)]) hx hb dX10_append_62 hl (k := 1) rfl (by decide) (by decide) rfl (fun ls hl => ?_)
            refine lv_goto (tgt := 24) hx hb dX10_append_65 (by decide) ?_
            refine lv_iload hx hb dX10_append_24 (lv_at hl 0 rfl) ?_
            refine lv_iload_n hx hb dX10_append_26 rfl (lv_at hl 4 rfl) ?_
            refine lv_icmp_ge (tgt := 68) hx hb dX10_append_27 (by decide) (fun h => absurd h (by decide)) (fun _ => ?_)
            refine lv_lload_n hx hb dX10_append_30 rfl (lv_at hl 3 rfl) ?_
            refine lv_iload hx hb dX10_append_31 (lv_at hl 0 rfl) ?_
            refine g_Si (n := 2) (As := [.long v, .int 1]) (rest := []) (wr := [(h0, .inr (10, [.ref (ad 0), .int 0, .int (-1), .int (-1), .ref (ad 1), .ref (ad 2), .ref (ad 3), .ref (ad 4), .ref (ad 5), .ref (ad 6), .ref (ad 7), .ref (ad 8)])), (ad 0, .inl (dA 2, 480, .inl (fun _ => 0)))]) hx hb hml hg hown hK hP hD hS hA (c_X10_byteOf l D dA v 1 _) [] [0, 1] rfl (by decide) rfl (by decide) (by decide) q749 q149 q747 q748 (by decide +kernel) ⟨(Nat.le_of_ble_eq_true rfl), (Nat.le_of_ble_eq_true rfl)⟩ rfl hl.1 rfl (Nat.le_of_ble_eq_true rfl) dX10_append_33 ⟨(Nat.le_of_ble_eq_true rfl), (Nat.le_of_ble_eq_true rfl)⟩ (fun r144 u143 H locs w145 hP hD hS => ?_)
            refine W.widen (k := 0) (n := 0) (Nat.le_of_ble_eq_true rfl) (Nat.le_of_ble_eq_true rfl) ?_
            have hP : va_P D vwC [(h0, .inr (10, [.ref (ad 0), .int 0, .int (-1), .int (-1), .ref (ad 1), .ref (ad 2), .ref (ad 3), .ref (ad 4), .ref (ad 5), .ref (ad 6), .ref (ad 7), .ref (ad 8)])), (ad 0, .inl (dA 2, 480, .inl (fun _ => 0)))] H := hP
            have hD : va_D A [(h0, .inr (10, [.ref (ad 0), .int 0, .int (-1), .int (-1), .ref (ad 1), .ref (ad 2), .ref (ad 3), .ref (ad 4), .ref (ad 5), .ref (ad 6), .ref (ad 7), .ref (ad 8)])), (ad 0, .inl (dA 2, 480, .inl (fun _ => 0)))] := hD
            obtain rfl : r144 = bC v 1 := w145
            refine lv_istore (lv' := [(5, .int (bC v 1)), (4, .int 1), (0, .ref h0), (1, .long v), (3, .int 6)]) hx hb dX10_append_36 hl (by decide) rfl (fun ls hl => ?_)
            refine lv_iload hx hb dX10_append_38 (lv_at hl 0 rfl) ?_
            refine lv_bipush (v := 32) hx hb dX10_append_40 (by decide) ?_
            refine lv_icmp_lt (tgt := 52) hx hb dX10_append_42 (by decide) (fun k146 => ?_) (fun k146 => ?_)
            · exact g_thr (cls := xIAE) (is := 101) (text := "a byte is not 32 .. 126") hx hb hg htr hown (by decide) q731 q167 (by decide +kernel) atIAE (by decide +kernel) hZ hS hml hl.1 hnt hlocks dX10_append_52 dX10_append_55 dX10_append_56 dX10_append_58 dX10_append_61 (Nat.le_of_ble_eq_true rfl) (Nat.le_of_ble_eq_true rfl) (Nat.le_of_ble_eq_true rfl) (Nat.le_of_ble_eq_true rfl) (Nat.le_of_ble_eq_true rfl) (Nat.le_of_ble_eq_true rfl) ⟨rfl, (fun h => by have h := h.2; rw [apI_6] at h; exact h.2.1.1 k146)⟩
            · refine lv_iload hx hb dX10_append_45 (lv_at hl 0 rfl) ?_
              refine lv_bipush (v := 126) hx hb dX10_append_47 (by decide) ?_
              refine lv_icmp_le (tgt := 62) hx hb dX10_append_49 (by decide) (fun k147 => ?_) (fun k147 => ?_)
              · refine lv_iinc (v := 2) (lv' := [(4, .int 2), (5, .int (bC v 1)), (0, .ref h0), (1, .long v), (3, .int 6)]) hx hb dX10_append_62 hl (k := 1) rfl (by decide) (by decide) rfl (fun ls hl => ?_)
                refine lv_goto (tgt := 24) hx hb dX10_append_65 (by decide) ?_
                refine lv_iload hx hb dX10_append_24 (lv_at hl 0 rfl) ?_
                refine lv_iload_n hx hb dX10_append_26 rfl (lv_at hl 4 rfl) ?_
                refine lv_icmp_ge (tgt := 68) hx hb dX10_append_27 (by decide) (fun h => absurd h (by decide)) (fun _ => ?_)
                refine lv_lload_n hx hb dX10_append_30 rfl (lv_at hl 3 rfl) ?_
                refine lv_iload hx hb dX10_append_31 (lv_at hl 0 rfl) ?_
                refine g_Si (n := 2) (As := [.long v, .int 2]) (rest := []) (wr := [(h0, .inr (10, [.ref (ad 0), .int 0, .int (-1), .int (-1), .ref (ad 1), .ref (ad 2), .ref (ad 3), .ref (ad 4), .ref (ad 5), .ref (ad 6), .ref (ad 7), .ref (ad 8)])), (ad 0, .inl (dA 2, 480, .inl (fun _ => 0)))]) hx hb hml hg hown hK hP hD hS hA (c_X10_byteOf l D dA v 2 _) [] [0, 1] rfl (by decide) rfl (by decide) (by decide) q749 q149 q747 q748 (by decide +kernel) ⟨(Nat.le_of_ble_eq_true rfl), (Nat.le_of_ble_eq_true rfl)⟩ rfl hl.1 rfl (Nat.le_of_ble_eq_true rfl) dX10_append_33 ⟨(Nat.le_of_ble_eq_true rfl), (Nat.le_of_ble_eq_true rfl)⟩ (fun r149 u148 H locs w150 hP hD hS => ?_)
                refine W.widen (k := 0) (n := 0) (Nat.le_of_ble_eq_true rfl) (Nat.le_of_ble_eq_true rfl) ?_
                have hP : va_P D vwC [(h0, .inr (10, [.ref (ad 0), .int 0, .int (-1), .int (-1), .ref (ad 1), .ref (ad 2), .ref (ad 3), .ref (ad 4), .ref (ad 5), .ref (ad 6), .ref (ad 7), .ref (ad 8)])), (ad 0, .inl (dA 2, 480, .inl (fun _ => 0)))] H := hP
                have hD : va_D A [(h0, .inr (10, [.ref (ad 0), .int 0, .int (-1), .int (-1), .ref (ad 1), .ref (ad 2), .ref (ad 3), .ref (ad 4), .ref (ad 5), .ref (ad 6), .ref (ad 7), .ref (ad 8)])), (ad 0, .inl (dA 2, 480, .inl (fun _ => 0)))] := hD
                obtain rfl : r149 = bC v 2 := w150
                refine lv_istore (lv' := [(5, .int (bC v 2)), (4, .int 2), (0, .ref h0), (1, .long v), (3, .int 6)]) hx hb dX10_append_36 hl (by decide) rfl (fun ls hl => ?_)
                refine lv_iload hx hb dX10_append_38 (lv_at hl 0 rfl) ?_
                refine lv_bipush (v := 32) hx hb dX10_append_40 (by decide) ?_
                refine lv_icmp_lt (tgt := 52) hx hb dX10_append_42 (by decide) (fun k151 => ?_) (fun k151 => ?_)
                · exact g_thr (cls := xIAE) (is := 101) (text := "a byte is not 32 .. 126") hx hb hg htr hown (by decide) q731 q167 (by decide +kernel) atIAE (by decide +kernel) hZ hS hml hl.1 hnt hlocks dX10_append_52 dX10_append_55 dX10_append_56 dX10_append_58 dX10_append_61 (Nat.le_of_ble_eq_true rfl) (Nat.le_of_ble_eq_true rfl) (Nat.le_of_ble_eq_true rfl) (Nat.le_of_ble_eq_true rfl) (Nat.le_of_ble_eq_true rfl) (Nat.le_of_ble_eq_true rfl) ⟨rfl, (fun h => by have h := h.2; rw [apI_6] at h; exact h.2.2.1.1 k151)⟩
                · refine lv_iload hx hb dX10_append_45 (lv_at hl 0 rfl) ?_
                  refine lv_bipush (v := 126) hx hb dX10_append_47 (by decide) ?_
                  refine lv_icmp_le (tgt := 62) hx hb dX10_append_49 (by decide) (fun k152 => ?_) (fun k152 => ?_)
                  · refine lv_iinc (v := 3) (lv' := [(4, .int 3), (5, .int (bC v 2)), (0, .ref h0), (1, .long v), (3, .int 6)]) hx hb dX10_append_62 hl (k := 1) rfl (by decide) (by decide) rfl (fun ls hl => ?_)
                    refine lv_goto (tgt := 24) hx hb dX10_append_65 (by decide) ?_
                    refine lv_iload hx hb dX10_append_24 (lv_at hl 0 rfl) ?_
                    refine lv_iload_n hx hb dX10_append_26 rfl (lv_at hl 4 rfl) ?_
                    refine lv_icmp_ge (tgt := 68) hx hb dX10_append_27 (by decide) (fun h => absurd h (by decide)) (fun _ => ?_)
                    refine lv_lload_n hx hb dX10_append_30 rfl (lv_at hl 3 rfl) ?_
                    refine lv_iload hx hb dX10_append_31 (lv_at hl 0 rfl) ?_
                    refine g_Si (n := 2) (As := [.long v, .int 3]) (rest := []) (wr := [(h0, .inr (10, [.ref (ad 0), .int 0, .int (-1), .int (-1), .ref (ad 1), .ref (ad 2), .ref (ad 3), .ref (ad 4), .ref (ad 5), .ref (ad 6), .ref (ad 7), .ref (ad 8)])), (ad 0, .inl (dA 2, 480, .inl (fun _ => 0)))]) hx hb hml hg hown hK hP hD hS hA (c_X10_byteOf l D dA v 3 _) [] [0, 1] rfl (by decide) rfl (by decide) (by decide) q749 q149 q747 q748 (by decide +kernel) ⟨(Nat.le_of_ble_eq_true rfl), (Nat.le_of_ble_eq_true rfl)⟩ rfl hl.1 rfl (Nat.le_of_ble_eq_true rfl) dX10_append_33 ⟨(Nat.le_of_ble_eq_true rfl), (Nat.le_of_ble_eq_true rfl)⟩ (fun r154 u153 H locs w155 hP hD hS => ?_)
                    refine W.widen (k := 0) (n := 0) (Nat.le_of_ble_eq_true rfl) (Nat.le_of_ble_eq_true rfl) ?_
                    have hP : va_P D vwC [(h0, .inr (10, [.ref (ad 0), .int 0, .int (-1), .int (-1), .ref (ad 1), .ref (ad 2), .ref (ad 3), .ref (ad 4), .ref (ad 5), .ref (ad 6), .ref (ad 7), .ref (ad 8)])), (ad 0, .inl (dA 2, 480, .inl (fun _ => 0)))] H := hP
                    have hD : va_D A [(h0, .inr (10, [.ref (ad 0), .int 0, .int (-1), .int (-1), .ref (ad 1), .ref (ad 2), .ref (ad 3), .ref (ad 4), .ref (ad 5), .ref (ad 6), .ref (ad 7), .ref (ad 8)])), (ad 0, .inl (dA 2, 480, .inl (fun _ => 0)))] := hD
                    obtain rfl : r154 = bC v 3 := w155
                    refine lv_istore (lv' := [(5, .int (bC v 3)), (4, .int 3), (0, .ref h0), (1, .long v), (3, .int 6)]) hx hb dX10_append_36 hl (by decide) rfl (fun ls hl => ?_)
                    refine lv_iload hx hb dX10_append_38 (lv_at hl 0 rfl) ?_
                    refine lv_bipush (v := 32) hx hb dX10_append_40 (by decide) ?_
                    refine lv_icmp_lt (tgt := 52) hx hb dX10_append_42 (by decide) (fun k156 => ?_) (fun k156 => ?_)
                    · exact g_thr (cls := xIAE) (is := 101) (text := "a byte is not 32 .. 126") hx hb hg htr hown (by decide) q731 q167 (by decide +kernel) atIAE (by decide +kernel) hZ hS hml hl.1 hnt hlocks dX10_append_52 dX10_append_55 dX10_append_56 dX10_append_58 dX10_append_61 (Nat.le_of_ble_eq_true rfl) (Nat.le_of_ble_eq_true rfl) (Nat.le_of_ble_eq_true rfl) (Nat.le_of_ble_eq_true rfl) (Nat.le_of_ble_eq_true rfl) (Nat.le_of_ble_eq_true rfl) ⟨rfl, (fun h => by have h := h.2; rw [apI_6] at h; exact h.2.2.2.1.1 k156)⟩
                    · refine lv_iload hx hb dX10_append_45 (lv_at hl 0 rfl) ?_
                      refine lv_bipush (v := 126) hx hb dX10_append_47 (by decide) ?_
                      refine lv_icmp_le (tgt := 62) hx hb dX10_append_49 (by decide) (fun k157 => ?_) (fun k157 => ?_)
                      · refine lv_iinc (v := 4) (lv' := [(4, .int 4), (5, .int (bC v 3)), (0, .ref h0), (1, .long v), (3, .int 6)]) hx hb dX10_append_62 hl (k := 1) rfl (by decide) (by decide) rfl (fun ls hl => ?_)
                        refine lv_goto (tgt := 24) hx hb dX10_append_65 (by decide) ?_
                        refine lv_iload hx hb dX10_append_24 (lv_at hl 0 rfl) ?_
                        refine lv_iload_n hx hb dX10_append_26 rfl (lv_at hl 4 rfl) ?_
                        refine lv_icmp_ge (tgt := 68) hx hb dX10_append_27 (by decide) (fun h => absurd h (by decide)) (fun _ => ?_)
                        refine lv_lload_n hx hb dX10_append_30 rfl (lv_at hl 3 rfl) ?_
                        refine lv_iload hx hb dX10_append_31 (lv_at hl 0 rfl) ?_
                        refine g_Si (n := 2) (As := [.long v, .int 4]) (rest := []) (wr := [(h0, .inr (10, [.ref (ad 0), .int 0, .int (-1), .int (-1), .ref (ad 1), .ref (ad 2), .ref (ad 3), .ref (ad 4), .ref (ad 5), .ref (ad 6), .ref (ad 7), .ref (ad 8)])), (ad 0, .inl (dA 2, 480, .inl (fun _ => 0)))]) hx hb hml hg hown hK hP hD hS hA (c_X10_byteOf l D dA v 4 _) [] [0, 1] rfl (by decide) rfl (by decide) (by decide) q749 q149 q747 q748 (by decide +kernel) ⟨(Nat.le_of_ble_eq_true rfl), (Nat.le_of_ble_eq_true rfl)⟩ rfl hl.1 rfl (Nat.le_of_ble_eq_true rfl) dX10_append_33 ⟨(Nat.le_of_ble_eq_true rfl), (Nat.le_of_ble_eq_true rfl)⟩ (fun r159 u158 H locs w160 hP hD hS => ?_)
                        refine W.widen (k := 0) (n := 0) (Nat.le_of_ble_eq_true rfl) (Nat.le_of_ble_eq_true rfl) ?_
                        have hP : va_P D vwC [(h0, .inr (10, [.ref (ad 0), .int 0, .int (-1), .int (-1), .ref (ad 1), .ref (ad 2), .ref (ad 3), .ref (ad 4), .ref (ad 5), .ref (ad 6), .ref (ad 7), .ref (ad 8)])), (ad 0, .inl (dA 2, 480, .inl (fun _ => 0)))] H := hP
                        have hD : va_D A [(h0, .inr (10, [.ref (ad 0), .int 0, .int (-1), .int (-1), .ref (ad 1), .ref (ad 2), .ref (ad 3), .ref (ad 4), .ref (ad 5), .ref (ad 6), .ref (ad 7), .ref (ad 8)])), (ad 0, .inl (dA 2, 480, .inl (fun _ => 0)))] := hD
                        obtain rfl : r159 = bC v 4 := w160
                        refine lv_istore (lv' := [(5, .int (bC v 4)), (4, .int 4), (0, .ref h0), (1, .long v), (3, .int 6)]) hx hb dX10_append_36 hl (by decide) rfl (fun ls hl => ?_)
                        refine lv_iload hx hb dX10_append_38 (lv_at hl 0 rfl) ?_
                        refine lv_bipush (v := 32) hx hb dX10_append_40 (by decide) ?_
                        refine lv_icmp_lt (tgt := 52) hx hb dX10_append_42 (by decide) (fun k161 => ?_) (fun k161 => ?_)
                        · exact g_thr (cls := xIAE) (is := 101) (text := "a byte is not 32 .. 126") hx hb hg htr hown (by decide) q731 q167 (by decide +kernel) atIAE (by decide +kernel) hZ hS hml hl.1 hnt hlocks dX10_append_52 dX10_append_55 dX10_append_56 dX10_append_58 dX10_append_61 (Nat.le_of_ble_eq_true rfl) (Nat.le_of_ble_eq_true rfl) (Nat.le_of_ble_eq_true rfl) (Nat.le_of_ble_eq_true rfl) (Nat.le_of_ble_eq_true rfl) (Nat.le_of_ble_eq_true rfl) ⟨rfl, (fun h => by have h := h.2; rw [apI_6] at h; exact h.2.2.2.2.1.1 k161)⟩
                        · refine lv_iload hx hb dX10_append_45 (lv_at hl 0 rfl) ?_
                          refine lv_bipush (v := 126) hx hb dX10_append_47 (by decide) ?_
                          refine lv_icmp_le (tgt := 62) hx hb dX10_append_49 (by decide) (fun k162 => ?_) (fun k162 => ?_)
                          · refine lv_iinc (v := 5) (lv' := [(4, .int 5), (5, .int (bC v 4)), (0, .ref h0), (1, .long v), (3, .int 6)]) hx hb dX10_append_62 hl (k := 1) rfl (by decide) (by decide) rfl (fun ls hl => ?_)
                            refine lv_goto (tgt := 24) hx hb dX10_append_65 (by decide) ?_
                            refine lv_iload hx hb dX10_append_24 (lv_at hl 0 rfl) ?_
                            refine lv_iload_n hx hb dX10_append_26 rfl (lv_at hl 4 rfl) ?_
                            refine lv_icmp_ge (tgt := 68) hx hb dX10_append_27 (by decide) (fun h => absurd h (by decide)) (fun _ => ?_)
                            refine lv_lload_n hx hb dX10_append_30 rfl (lv_at hl 3 rfl) ?_
                            refine lv_iload hx hb dX10_append_31 (lv_at hl 0 rfl) ?_
                            refine g_Si (n := 2) (As := [.long v, .int 5]) (rest := []) (wr := [(h0, .inr (10, [.ref (ad 0), .int 0, .int (-1), .int (-1), .ref (ad 1), .ref (ad 2), .ref (ad 3), .ref (ad 4), .ref (ad 5), .ref (ad 6), .ref (ad 7), .ref (ad 8)])), (ad 0, .inl (dA 2, 480, .inl (fun _ => 0)))]) hx hb hml hg hown hK hP hD hS hA (c_X10_byteOf l D dA v 5 _) [] [0, 1] rfl (by decide) rfl (by decide) (by decide) q749 q149 q747 q748 (by decide +kernel) ⟨(Nat.le_of_ble_eq_true rfl), (Nat.le_of_ble_eq_true rfl)⟩ rfl hl.1 rfl (Nat.le_of_ble_eq_true rfl) dX10_append_33 ⟨(Nat.le_of_ble_eq_true rfl), (Nat.le_of_ble_eq_true rfl)⟩ (fun r164 u163 H locs w165 hP hD hS => ?_)
                            refine W.widen (k := 0) (n := 0) (Nat.le_of_ble_eq_true rfl) (Nat.le_of_ble_eq_true rfl) ?_
                            have hP : va_P D vwC [(h0, .inr (10, [.ref (ad 0), .int 0, .int (-1), .int (-1), .ref (ad 1), .ref (ad 2), .ref (ad 3), .ref (ad 4), .ref (ad 5), .ref (ad 6), .ref (ad 7), .ref (ad 8)])), (ad 0, .inl (dA 2, 480, .inl (fun _ => 0)))] H := hP
                            have hD : va_D A [(h0, .inr (10, [.ref (ad 0), .int 0, .int (-1), .int (-1), .ref (ad 1), .ref (ad 2), .ref (ad 3), .ref (ad 4), .ref (ad 5), .ref (ad 6), .ref (ad 7), .ref (ad 8)])), (ad 0, .inl (dA 2, 480, .inl (fun _ => 0)))] := hD
                            obtain rfl : r164 = bC v 5 := w165
                            refine lv_istore (lv' := [(5, .int (bC v 5)), (4, .int 5), (0, .ref h0), (1, .long v), (3, .int 6)]) hx hb dX10_append_36 hl (by decide) rfl (fun ls hl => ?_)
                            refine lv_iload hx hb dX10_append_38 (lv_at hl 0 rfl) ?_
                            refine lv_bipush (v := 32) hx hb dX10_append_40 (by decide) ?_
                            refine lv_icmp_lt (tgt := 52) hx hb dX10_append_42 (by decide) (fun k166 => ?_) (fun k166 => ?_)
                            · exact g_thr (cls := xIAE) (is := 101) (text := "a byte is not 32 .. 126") hx hb hg htr hown (by decide) q731 q167 (by decide +kernel) atIAE (by decide +kernel) hZ hS hml hl.1 hnt hlocks dX10_append_52 dX10_append_55 dX10_append_56 dX10_append_58 dX10_append_61 (Nat.le_of_ble_eq_true rfl) (Nat.le_of_ble_eq_true rfl) (Nat.le_of_ble_eq_true rfl) (Nat.le_of_ble_eq_true rfl) (Nat.le_of_ble_eq_true rfl) (Nat.le_of_ble_eq_true rfl) ⟨rfl, (fun h => by have h := h.2; rw [apI_6] at h; exact h.2.2.2.2.2.1.1 k166)⟩
                            · refine lv_iload hx hb dX10_append_45 (lv_at hl 0 rfl) ?_
                              refine lv_bipush (v := 126) hx hb dX10_append_47 (by decide) ?_
                              refine lv_icmp_le (tgt := 62) hx hb dX10_append_49 (by decide) (fun k167 => ?_) (fun k167 => ?_)
                              · refine lv_iinc (v := 6) (lv' := [(4, .int 6), (5, .int (bC v 5)), (0, .ref h0), (1, .long v), (3, .int 6)]) hx hb dX10_append_62 hl (k := 1) rfl (by decide) (by decide) rfl (fun ls hl => ?_)
                                refine lv_goto (tgt := 24) hx hb dX10_append_65 (by decide) ?_
                                refine lv_iload hx hb dX10_append_24 (lv_at hl 0 rfl) ?_
                                refine lv_iload_n hx hb dX10_append_26 rfl (lv_at hl 4 rfl) ?_
                                refine lv_icmp_ge (tgt := 68) hx hb dX10_append_27 (by decide) (fun _ => ?_) (fun h => absurd (by decide) h)
                                refine lv_aload_n hx hb dX10_append_68 rfl (lv_at hl 2 rfl) ?_
                                refine g_get hx hb hg hown hK hP 0 rfl rfl inX10 1 (by decide) q607 rfl dX10_append_69 ?_
                                refine lv_iload_n hx hb dX10_append_72 rfl (lv_at hl 4 rfl) ?_
                                refine lv_iadd hx hb dX10_append_73 ?_
                                refine g_nrm (y := 6) (by decide) ?_
                                refine lv_sipush (v := 480) hx hb dX10_append_74 (by decide) ?_
                                refine lv_icmp_le (tgt := 90) hx hb dX10_append_77 (by decide) (fun _ => ?_) (fun h => absurd (by decide) h)
                                refine lv_iload_n hx hb dX10_append_90 rfl (lv_at hl 4 rfl) ?_
                                refine lv_iconst (v := 1) hx hb dX10_append_91 (by decide) ?_
                                refine lv_isub hx hb dX10_append_92 ?_
                                refine g_nrm (y := 5) (by decide) ?_
                                refine lv_istore (lv' := [(4, .int 5), (5, .int (bC v 5)), (0, .ref h0), (1, .long v), (3, .int 6)]) hx hb dX10_append_93 hl (by decide) rfl (fun ls hl => ?_)
                                refine lv_iload hx hb dX10_append_95 (lv_at hl 0 rfl) ?_
                                refine lv_if_lt (tgt := 132) hx hb dX10_append_97 (by decide) (fun h => absurd h (by decide)) (fun _ => ?_)
                                refine lv_aload_n hx hb dX10_append_100 rfl (lv_at hl 2 rfl) ?_
                                refine g_get hx hb hg hown hK hP 0 rfl rfl inX10 0 (by decide) q606 rfl dX10_append_101 ?_
                                refine lv_aload_n hx hb dX10_append_104 rfl (lv_at hl 2 rfl) ?_
                                refine g_get hx hb hg hown hK hP 0 rfl rfl inX10 1 (by decide) q607 rfl dX10_append_105 ?_
                                refine lv_lload_n hx hb dX10_append_108 rfl (lv_at hl 3 rfl) ?_
                                refine lv_iload hx hb dX10_append_109 (lv_at hl 0 rfl) ?_
                                refine g_Si (n := 2) (As := [.long v, .int 5]) (rest := [.int 0, .ref (ad 0)]) (wr := [(h0, .inr (10, [.ref (ad 0), .int 0, .int (-1), .int (-1), .ref (ad 1), .ref (ad 2), .ref (ad 3), .ref (ad 4), .ref (ad 5), .ref (ad 6), .ref (ad 7), .ref (ad 8)])), (ad 0, .inl (dA 2, 480, .inl (fun _ => 0)))]) hx hb hml hg hown hK hP hD hS hA (c_X10_byteOf l D dA v 5 _) [] [0, 1] rfl (by decide) rfl (by decide) (by decide) q749 q149 q747 q748 (by decide +kernel) ⟨(Nat.le_of_ble_eq_true rfl), (Nat.le_of_ble_eq_true rfl)⟩ rfl hl.1 rfl (Nat.le_of_ble_eq_true rfl) dX10_append_111 ⟨(Nat.le_of_ble_eq_true rfl), (Nat.le_of_ble_eq_true rfl)⟩ (fun r169 u168 H locs w170 hP hD hS => ?_)
                                refine W.widen (k := 0) (n := 0) (Nat.le_of_ble_eq_true rfl) (Nat.le_of_ble_eq_true rfl) ?_
                                have hP : va_P D vwC [(h0, .inr (10, [.ref (ad 0), .int 0, .int (-1), .int (-1), .ref (ad 1), .ref (ad 2), .ref (ad 3), .ref (ad 4), .ref (ad 5), .ref (ad 6), .ref (ad 7), .ref (ad 8)])), (ad 0, .inl (dA 2, 480, .inl (fun _ => 0)))] H := hP
                                have hD : va_D A [(h0, .inr (10, [.ref (ad 0), .int 0, .int (-1), .int (-1), .ref (ad 1), .ref (ad 2), .ref (ad 3), .ref (ad 4), .ref (ad 5), .ref (ad 6), .ref (ad 7), .ref (ad 8)])), (ad 0, .inl (dA 2, 480, .inl (fun _ => 0)))] := hD
                                obtain rfl : r169 = bC v 5 := w170
                                refine lv_i2c (v := (((bC v 5).toUInt32 % 65536).toInt32)) hx hb dX10_append_114 rfl ?_
                                refine va_cast hx hb hK hP hD hS 1 2 rfl rfl (by unfold vp_in; decide) dX10_append_115 (fun H locs hP hD hS => ?_)
                                have hP : va_P D vwC [(h0, .inr (10, [.ref (ad 0), .int 0, .int (-1), .int (-1), .ref (ad 1), .ref (ad 2), .ref (ad 3), .ref (ad 4), .ref (ad 5), .ref (ad 6), .ref (ad 7), .ref (ad 8)])), (ad 0, .inl (dA 2, 480, .inl (upd (fun _ => 0) (0 : Int32).toNatClampNeg (vp_nar .char (((bC v 5).toUInt32 % 65536).toInt32)))))] H := hP
                                have hD : va_D A [(h0, .inr (10, [.ref (ad 0), .int 0, .int (-1), .int (-1), .ref (ad 1), .ref (ad 2), .ref (ad 3), .ref (ad 4), .ref (ad 5), .ref (ad 6), .ref (ad 7), .ref (ad 8)])), (ad 0, .inl (dA 2, 480, .inl (upd (fun _ => 0) (0 : Int32).toNatClampNeg (vp_nar .char (((bC v 5).toUInt32 % 65536).toInt32)))))] := hD
                                generalize (upd (fun _ => 0) (0 : Int32).toNatClampNeg (vp_nar .char (((bC v 5).toUInt32 % 65536).toInt32))) = f171 at hP hD
                                refine lv_aload_n hx hb dX10_append_116 rfl (lv_at hl 2 rfl) ?_
                                refine lv_dup hx hb dX10_append_117 rfl ?_
                                refine g_get hx hb hg hown hK hP 0 rfl rfl inX10 1 (by decide) q607 rfl dX10_append_118 ?_
                                refine lv_iconst (v := 1) hx hb dX10_append_121 (by decide) ?_
                                refine lv_iadd hx hb dX10_append_122 ?_
                                refine g_nrm (y := 1) (by decide) ?_
                                refine g_put (w' := [(h0, .inr (10, [.ref (ad 0), .int 1, .int (-1), .int (-1), .ref (ad 1), .ref (ad 2), .ref (ad 3), .ref (ad 4), .ref (ad 5), .ref (ad 6), .ref (ad 7), .ref (ad 8)])), (ad 0, .inl (dA 2, 480, .inl f171))]) hx hb hg hown hK hP hD hS 0 rfl rfl inX10 tyX10_ok nmX10 1 (by decide) q607 rfl rfl rfl (Nat.le_of_ble_eq_true rfl) rfl dX10_append_123 (fun H locs hP hD hS => ?_)
                                refine lv_iinc (v := 4) (lv' := [(4, .int 4), (5, .int (bC v 5)), (0, .ref h0), (1, .long v), (3, .int 6)]) hx hb dX10_append_126 hl (k := 0) rfl (by decide) (by decide) rfl (fun ls hl => ?_)
                                refine lv_goto (tgt := 95) hx hb dX10_append_129 (by decide) ?_
                                refine lv_iload hx hb dX10_append_95 (lv_at hl 0 rfl) ?_
                                refine lv_if_lt (tgt := 132) hx hb dX10_append_97 (by decide) (fun h => absurd h (by decide)) (fun _ => ?_)
                                refine lv_aload_n hx hb dX10_append_100 rfl (lv_at hl 2 rfl) ?_
                                refine g_get hx hb hg hown hK hP 0 rfl rfl inX10 0 (by decide) q606 rfl dX10_append_101 ?_
                                refine lv_aload_n hx hb dX10_append_104 rfl (lv_at hl 2 rfl) ?_
                                refine g_get hx hb hg hown hK hP 0 rfl rfl inX10 1 (by decide) q607 rfl dX10_append_105 ?_
                                refine lv_lload_n hx hb dX10_append_108 rfl (lv_at hl 3 rfl) ?_
                                refine lv_iload hx hb dX10_append_109 (lv_at hl 0 rfl) ?_
                                refine g_Si (n := 2) (As := [.long v, .int 4]) (rest := [.int 1, .ref (ad 0)]) (wr := [(h0, .inr (10, [.ref (ad 0), .int 1, .int (-1), .int (-1), .ref (ad 1), .ref (ad 2), .ref (ad 3), .ref (ad 4), .ref (ad 5), .ref (ad 6), .ref (ad 7), .ref (ad 8)])), (ad 0, .inl (dA 2, 480, .inl f171))]) hx hb hml hg hown hK hP hD hS hA (c_X10_byteOf l D dA v 4 _) [] [0, 1] rfl (by decide) rfl (by decide) (by decide) q749 q149 q747 q748 (by decide +kernel) ⟨(Nat.le_of_ble_eq_true rfl), (Nat.le_of_ble_eq_true rfl)⟩ rfl hl.1 rfl (Nat.le_of_ble_eq_true rfl) dX10_append_111 ⟨(Nat.le_of_ble_eq_true rfl), (Nat.le_of_ble_eq_true rfl)⟩ (fun r173 u172 H locs w174 hP hD hS => ?_)
                                refine W.widen (k := 0) (n := 0) (Nat.le_of_ble_eq_true rfl) (Nat.le_of_ble_eq_true rfl) ?_
                                have hP : va_P D vwC [(h0, .inr (10, [.ref (ad 0), .int 1, .int (-1), .int (-1), .ref (ad 1), .ref (ad 2), .ref (ad 3), .ref (ad 4), .ref (ad 5), .ref (ad 6), .ref (ad 7), .ref (ad 8)])), (ad 0, .inl (dA 2, 480, .inl f171))] H := hP
                                have hD : va_D A [(h0, .inr (10, [.ref (ad 0), .int 1, .int (-1), .int (-1), .ref (ad 1), .ref (ad 2), .ref (ad 3), .ref (ad 4), .ref (ad 5), .ref (ad 6), .ref (ad 7), .ref (ad 8)])), (ad 0, .inl (dA 2, 480, .inl f171))] := hD
                                obtain rfl : r173 = bC v 4 := w174
                                refine lv_i2c (v := (((bC v 4).toUInt32 % 65536).toInt32)) hx hb dX10_append_114 rfl ?_
                                refine va_cast hx hb hK hP hD hS 1 2 rfl rfl (by unfold vp_in; decide) dX10_append_115 (fun H locs hP hD hS => ?_)
                                have hP : va_P D vwC [(h0, .inr (10, [.ref (ad 0), .int 1, .int (-1), .int (-1), .ref (ad 1), .ref (ad 2), .ref (ad 3), .ref (ad 4), .ref (ad 5), .ref (ad 6), .ref (ad 7), .ref (ad 8)])), (ad 0, .inl (dA 2, 480, .inl (upd f171 (1 : Int32).toNatClampNeg (vp_nar .char (((bC v 4).toUInt32 % 65536).toInt32)))))] H := hP
                                have hD : va_D A [(h0, .inr (10, [.ref (ad 0), .int 1, .int (-1), .int (-1), .ref (ad 1), .ref (ad 2), .ref (ad 3), .ref (ad 4), .ref (ad 5), .ref (ad 6), .ref (ad 7), .ref (ad 8)])), (ad 0, .inl (dA 2, 480, .inl (upd f171 (1 : Int32).toNatClampNeg (vp_nar .char (((bC v 4).toUInt32 % 65536).toInt32)))))] := hD
                                generalize (upd f171 (1 : Int32).toNatClampNeg (vp_nar .char (((bC v 4).toUInt32 % 65536).toInt32))) = f175 at hP hD
                                refine lv_aload_n hx hb dX10_append_116 rfl (lv_at hl 2 rfl) ?_
                                refine lv_dup hx hb dX10_append_117 rfl ?_
                                refine g_get hx hb hg hown hK hP 0 rfl rfl inX10 1 (by decide) q607 rfl dX10_append_118 ?_
                                refine lv_iconst (v := 1) hx hb dX10_append_121 (by decide) ?_
                                refine lv_iadd hx hb dX10_append_122 ?_
                                refine g_nrm (y := 2) (by decide) ?_
                                refine g_put (w' := [(h0, .inr (10, [.ref (ad 0), .int 2, .int (-1), .int (-1), .ref (ad 1), .ref (ad 2), .ref (ad 3), .ref (ad 4), .ref (ad 5), .ref (ad 6), .ref (ad 7), .ref (ad 8)])), (ad 0, .inl (dA 2, 480, .inl f175))]) hx hb hg hown hK hP hD hS 0 rfl rfl inX10 tyX10_ok nmX10 1 (by decide) q607 rfl rfl rfl (Nat.le_of_ble_eq_true rfl) rfl dX10_append_123 (fun H locs hP hD hS => ?_)
                                refine lv_iinc (v := 3) (lv' := [(4, .int 3), (5, .int (bC v 5)), (0, .ref h0), (1, .long v), (3, .int 6)]) hx hb dX10_append_126 hl (k := 0) rfl (by decide) (by decide) rfl (fun ls hl => ?_)
                                refine lv_goto (tgt := 95) hx hb dX10_append_129 (by decide) ?_
                                refine lv_iload hx hb dX10_append_95 (lv_at hl 0 rfl) ?_
                                refine lv_if_lt (tgt := 132) hx hb dX10_append_97 (by decide) (fun h => absurd h (by decide)) (fun _ => ?_)
                                refine lv_aload_n hx hb dX10_append_100 rfl (lv_at hl 2 rfl) ?_
                                refine g_get hx hb hg hown hK hP 0 rfl rfl inX10 0 (by decide) q606 rfl dX10_append_101 ?_
                                refine lv_aload_n hx hb dX10_append_104 rfl (lv_at hl 2 rfl) ?_
                                refine g_get hx hb hg hown hK hP 0 rfl rfl inX10 1 (by decide) q607 rfl dX10_append_105 ?_
                                refine lv_lload_n hx hb dX10_append_108 rfl (lv_at hl 3 rfl) ?_
                                refine lv_iload hx hb dX10_append_109 (lv_at hl 0 rfl) ?_
                                refine g_Si (n := 2) (As := [.long v, .int 3]) (rest := [.int 2, .ref (ad 0)]) (wr := [(h0, .inr (10, [.ref (ad 0), .int 2, .int (-1), .int (-1), .ref (ad 1), .ref (ad 2), .ref (ad 3), .ref (ad 4), .ref (ad 5), .ref (ad 6), .ref (ad 7), .ref (ad 8)])), (ad 0, .inl (dA 2, 480, .inl f175))]) hx hb hml hg hown hK hP hD hS hA (c_X10_byteOf l D dA v 3 _) [] [0, 1] rfl (by decide) rfl (by decide) (by decide) q749 q149 q747 q748 (by decide +kernel) ⟨(Nat.le_of_ble_eq_true rfl), (Nat.le_of_ble_eq_true rfl)⟩ rfl hl.1 rfl (Nat.le_of_ble_eq_true rfl) dX10_append_111 ⟨(Nat.le_of_ble_eq_true rfl), (Nat.le_of_ble_eq_true rfl)⟩ (fun r177 u176 H locs w178 hP hD hS => ?_)
                                refine W.widen (k := 0) (n := 0) (Nat.le_of_ble_eq_true rfl) (Nat.le_of_ble_eq_true rfl) ?_
                                have hP : va_P D vwC [(h0, .inr (10, [.ref (ad 0), .int 2, .int (-1), .int (-1), .ref (ad 1), .ref (ad 2), .ref (ad 3), .ref (ad 4), .ref (ad 5), .ref (ad 6), .ref (ad 7), .ref (ad 8)])), (ad 0, .inl (dA 2, 480, .inl f175))] H := hP
                                have hD : va_D A [(h0, .inr (10, [.ref (ad 0), .int 2, .int (-1), .int (-1), .ref (ad 1), .ref (ad 2), .ref (ad 3), .ref (ad 4), .ref (ad 5), .ref (ad 6), .ref (ad 7), .ref (ad 8)])), (ad 0, .inl (dA 2, 480, .inl f175))] := hD
                                obtain rfl : r177 = bC v 3 := w178
                                refine lv_i2c (v := (((bC v 3).toUInt32 % 65536).toInt32)) hx hb dX10_append_114 rfl ?_
                                refine va_cast hx hb hK hP hD hS 1 2 rfl rfl (by unfold vp_in; decide) dX10_append_115 (fun H locs hP hD hS => ?_)
                                have hP : va_P D vwC [(h0, .inr (10, [.ref (ad 0), .int 2, .int (-1), .int (-1), .ref (ad 1), .ref (ad 2), .ref (ad 3), .ref (ad 4), .ref (ad 5), .ref (ad 6), .ref (ad 7), .ref (ad 8)])), (ad 0, .inl (dA 2, 480, .inl (upd f175 (2 : Int32).toNatClampNeg (vp_nar .char (((bC v 3).toUInt32 % 65536).toInt32)))))] H := hP
                                have hD : va_D A [(h0, .inr (10, [.ref (ad 0), .int 2, .int (-1), .int (-1), .ref (ad 1), .ref (ad 2), .ref (ad 3), .ref (ad 4), .ref (ad 5), .ref (ad 6), .ref (ad 7), .ref (ad 8)])), (ad 0, .inl (dA 2, 480, .inl (upd f175 (2 : Int32).toNatClampNeg (vp_nar .char (((bC v 3).toUInt32 % 65536).toInt32)))))] := hD
                                generalize (upd f175 (2 : Int32).toNatClampNeg (vp_nar .char (((bC v 3).toUInt32 % 65536).toInt32))) = f179 at hP hD
                                refine lv_aload_n hx hb dX10_append_116 rfl (lv_at hl 2 rfl) ?_
                                refine lv_dup hx hb dX10_append_117 rfl ?_
                                refine g_get hx hb hg hown hK hP 0 rfl rfl inX10 1 (by decide) q607 rfl dX10_append_118 ?_
                                refine lv_iconst (v := 1) hx hb dX10_append_121 (by decide) ?_
                                refine lv_iadd hx hb dX10_append_122 ?_
                                refine g_nrm (y := 3) (by decide) ?_
                                refine g_put (w' := [(h0, .inr (10, [.ref (ad 0), .int 3, .int (-1), .int (-1), .ref (ad 1), .ref (ad 2), .ref (ad 3), .ref (ad 4), .ref (ad 5), .ref (ad 6), .ref (ad 7), .ref (ad 8)])), (ad 0, .inl (dA 2, 480, .inl f179))]) hx hb hg hown hK hP hD hS 0 rfl rfl inX10 tyX10_ok nmX10 1 (by decide) q607 rfl rfl rfl (Nat.le_of_ble_eq_true rfl) rfl dX10_append_123 (fun H locs hP hD hS => ?_)
                                refine lv_iinc (v := 2) (lv' := [(4, .int 2), (5, .int (bC v 5)), (0, .ref h0), (1, .long v), (3, .int 6)]) hx hb dX10_append_126 hl (k := 0) rfl (by decide) (by decide) rfl (fun ls hl => ?_)
                                refine lv_goto (tgt := 95) hx hb dX10_append_129 (by decide) ?_
                                refine lv_iload hx hb dX10_append_95 (lv_at hl 0 rfl) ?_
                                refine lv_if_lt (tgt := 132) hx hb dX10_append_97 (by decide) (fun h => absurd h (by decide)) (fun _ => ?_)
                                refine lv_aload_n hx hb dX10_append_100 rfl (lv_at hl 2 rfl) ?_
                                refine g_get hx hb hg hown hK hP 0 rfl rfl inX10 0 (by decide) q606 rfl dX10_append_101 ?_
                                refine lv_aload_n hx hb dX10_append_104 rfl (lv_at hl 2 rfl) ?_
                                refine g_get hx hb hg hown hK hP 0 rfl rfl inX10 1 (by decide) q607 rfl dX10_append_105 ?_
                                refine lv_lload_n hx hb dX10_append_108 rfl (lv_at hl 3 rfl) ?_
                                refine lv_iload hx hb dX10_append_109 (lv_at hl 0 rfl) ?_
                                refine g_Si (n := 2) (As := [.long v, .int 2]) (rest := [.int 3, .ref (ad 0)]) (wr := [(h0, .inr (10, [.ref (ad 0), .int 3, .int (-1), .int (-1), .ref (ad 1), .ref (ad 2), .ref (ad 3), .ref (ad 4), .ref (ad 5), .ref (ad 6), .ref (ad 7), .ref (ad 8)])), (ad 0, .inl (dA 2, 480, .inl f179))]) hx hb hml hg hown hK hP hD hS hA (c_X10_byteOf l D dA v 2 _) [] [0, 1] rfl (by decide) rfl (by decide) (by decide) q749 q149 q747 q748 (by decide +kernel) ⟨(Nat.le_of_ble_eq_true rfl), (Nat.le_of_ble_eq_true rfl)⟩ rfl hl.1 rfl (Nat.le_of_ble_eq_true rfl) dX10_append_111 ⟨(Nat.le_of_ble_eq_true rfl), (Nat.le_of_ble_eq_true rfl)⟩ (fun r181 u180 H locs w182 hP hD hS => ?_)
                                refine W.widen (k := 0) (n := 0) (Nat.le_of_ble_eq_true rfl) (Nat.le_of_ble_eq_true rfl) ?_
                                have hP : va_P D vwC [(h0, .inr (10, [.ref (ad 0), .int 3, .int (-1), .int (-1), .ref (ad 1), .ref (ad 2), .ref (ad 3), .ref (ad 4), .ref (ad 5), .ref (ad 6), .ref (ad 7), .ref (ad 8)])), (ad 0, .inl (dA 2, 480, .inl f179))] H := hP
                                have hD : va_D A [(h0, .inr (10, [.ref (ad 0), .int 3, .int (-1), .int (-1), .ref (ad 1), .ref (ad 2), .ref (ad 3), .ref (ad 4), .ref (ad 5), .ref (ad 6), .ref (ad 7), .ref (ad 8)])), (ad 0, .inl (dA 2, 480, .inl f179))] := hD
                                obtain rfl : r181 = bC v 2 := w182
                                refine lv_i2c (v := (((bC v 2).toUInt32 % 65536).toInt32)) hx hb dX10_append_114 rfl ?_
                                refine va_cast hx hb hK hP hD hS 1 2 rfl rfl (by unfold vp_in; decide) dX10_append_115 (fun H locs hP hD hS => ?_)
                                have hP : va_P D vwC [(h0, .inr (10, [.ref (ad 0), .int 3, .int (-1), .int (-1), .ref (ad 1), .ref (ad 2), .ref (ad 3), .ref (ad 4), .ref (ad 5), .ref (ad 6), .ref (ad 7), .ref (ad 8)])), (ad 0, .inl (dA 2, 480, .inl (upd f179 (3 : Int32).toNatClampNeg (vp_nar .char (((bC v 2).toUInt32 % 65536).toInt32)))))] H := hP
                                have hD : va_D A [(h0, .inr (10, [.ref (ad 0), .int 3, .int (-1), .int (-1), .ref (ad 1), .ref (ad 2), .ref (ad 3), .ref (ad 4), .ref (ad 5), .ref (ad 6), .ref (ad 7), .ref (ad 8)])), (ad 0, .inl (dA 2, 480, .inl (upd f179 (3 : Int32).toNatClampNeg (vp_nar .char (((bC v 2).toUInt32 % 65536).toInt32)))))] := hD
                                generalize (upd f179 (3 : Int32).toNatClampNeg (vp_nar .char (((bC v 2).toUInt32 % 65536).toInt32))) = f183 at hP hD
                                refine lv_aload_n hx hb dX10_append_116 rfl (lv_at hl 2 rfl) ?_
                                refine lv_dup hx hb dX10_append_117 rfl ?_
                                refine g_get hx hb hg hown hK hP 0 rfl rfl inX10 1 (by decide) q607 rfl dX10_append_118 ?_
                                refine lv_iconst (v := 1) hx hb dX10_append_121 (by decide) ?_
                                refine lv_iadd hx hb dX10_append_122 ?_
                                refine g_nrm (y := 4) (by decide) ?_
                                refine g_put (w' := [(h0, .inr (10, [.ref (ad 0), .int 4, .int (-1), .int (-1), .ref (ad 1), .ref (ad 2), .ref (ad 3), .ref (ad 4), .ref (ad 5), .ref (ad 6), .ref (ad 7), .ref (ad 8)])), (ad 0, .inl (dA 2, 480, .inl f183))]) hx hb hg hown hK hP hD hS 0 rfl rfl inX10 tyX10_ok nmX10 1 (by decide) q607 rfl rfl rfl (Nat.le_of_ble_eq_true rfl) rfl dX10_append_123 (fun H locs hP hD hS => ?_)
                                refine lv_iinc (v := 1) (lv' := [(4, .int 1), (5, .int (bC v 5)), (0, .ref h0), (1, .long v), (3, .int 6)]) hx hb dX10_append_126 hl (k := 0) rfl (by decide) (by decide) rfl (fun ls hl => ?_)
                                refine lv_goto (tgt := 95) hx hb dX10_append_129 (by decide) ?_
                                refine lv_iload hx hb dX10_append_95 (lv_at hl 0 rfl) ?_
                                refine lv_if_lt (tgt := 132) hx hb dX10_append_97 (by decide) (fun h => absurd h (by decide)) (fun _ => ?_)
                                refine lv_aload_n hx hb dX10_append_100 rfl (lv_at hl 2 rfl) ?_
                                refine g_get hx hb hg hown hK hP 0 rfl rfl inX10 0 (by decide) q606 rfl dX10_append_101 ?_
                                refine lv_aload_n hx hb dX10_append_104 rfl (lv_at hl 2 rfl) ?_
                                refine g_get hx hb hg hown hK hP 0 rfl rfl inX10 1 (by decide) q607 rfl dX10_append_105 ?_
                                refine lv_lload_n hx hb dX10_append_108 rfl (lv_at hl 3 rfl) ?_
                                refine lv_iload hx hb dX10_append_109 (lv_at hl 0 rfl) ?_
                                refine g_Si (n := 2) (As := [.long v, .int 1]) (rest := [.int 4, .ref (ad 0)]) (wr := [(h0, .inr (10, [.ref (ad 0), .int 4, .int (-1), .int (-1), .ref (ad 1), .ref (ad 2), .ref (ad 3), .ref (ad 4), .ref (ad 5), .ref (ad 6), .ref (ad 7), .ref (ad 8)])), (ad 0, .inl (dA 2, 480, .inl f183))]) hx hb hml hg hown hK hP hD hS hA (c_X10_byteOf l D dA v 1 _) [] [0, 1] rfl (by decide) rfl (by decide) (by decide) q749 q149 q747 q748 (by decide +kernel) ⟨(Nat.le_of_ble_eq_true rfl), (Nat.le_of_ble_eq_true rfl)⟩ rfl hl.1 rfl (Nat.le_of_ble_eq_true rfl) dX10_append_111 ⟨(Nat.le_of_ble_eq_true rfl), (Nat.le_of_ble_eq_true rfl)⟩ (fun r185 u184 H locs w186 hP hD hS => ?_)
                                refine W.widen (k := 0) (n := 0) (Nat.le_of_ble_eq_true rfl) (Nat.le_of_ble_eq_true rfl) ?_
                                have hP : va_P D vwC [(h0, .inr (10, [.ref (ad 0), .int 4, .int (-1), .int (-1), .ref (ad 1), .ref (ad 2), .ref (ad 3), .ref (ad 4), .ref (ad 5), .ref (ad 6), .ref (ad 7), .ref (ad 8)])), (ad 0, .inl (dA 2, 480, .inl f183))] H := hP
                                have hD : va_D A [(h0, .inr (10, [.ref (ad 0), .int 4, .int (-1), .int (-1), .ref (ad 1), .ref (ad 2), .ref (ad 3), .ref (ad 4), .ref (ad 5), .ref (ad 6), .ref (ad 7), .ref (ad 8)])), (ad 0, .inl (dA 2, 480, .inl f183))] := hD
                                obtain rfl : r185 = bC v 1 := w186
                                refine lv_i2c (v := (((bC v 1).toUInt32 % 65536).toInt32)) hx hb dX10_append_114 rfl ?_
                                refine va_cast hx hb hK hP hD hS 1 2 rfl rfl (by unfold vp_in; decide) dX10_append_115 (fun H locs hP hD hS => ?_)
                                have hP : va_P D vwC [(h0, .inr (10, [.ref (ad 0), .int 4, .int (-1), .int (-1), .ref (ad 1), .ref (ad 2), .ref (ad 3), .ref (ad 4), .ref (ad 5), .ref (ad 6), .ref (ad 7), .ref (ad 8)])), (ad 0, .inl (dA 2, 480, .inl (upd f183 (4 : Int32).toNatClampNeg (vp_nar .char (((bC v 1).toUInt32 % 65536).toInt32)))))] H := hP
                                have hD : va_D A [(h0, .inr (10, [.ref (ad 0), .int 4, .int (-1), .int (-1), .ref (ad 1), .ref (ad 2), .ref (ad 3), .ref (ad 4), .ref (ad 5), .ref (ad 6), .ref (ad 7), .ref (ad 8)])), (ad 0, .inl (dA 2, 480, .inl (upd f183 (4 : Int32).toNatClampNeg (vp_nar .char (((bC v 1).toUInt32 % 65536).toInt32)))))] := hD
                                generalize (upd f183 (4 : Int32).toNatClampNeg (vp_nar .char (((bC v 1).toUInt32 % 65536).toInt32))) = f187 at hP hD
                                refine lv_aload_n hx hb dX10_append_116 rfl (lv_at hl 2 rfl) ?_
                                refine lv_dup hx hb dX10_append_117 rfl ?_
                                refine g_get hx hb hg hown hK hP 0 rfl rfl inX10 1 (by decide) q607 rfl dX10_append_118 ?_
                                refine lv_iconst (v := 1) hx hb dX10_append_121 (by decide) ?_
                                refine lv_iadd hx hb dX10_append_122 ?_
                                refine g_nrm (y := 5) (by decide) ?_
                                refine g_put (w' := [(h0, .inr (10, [.ref (ad 0), .int 5, .int (-1), .int (-1), .ref (ad 1), .ref (ad 2), .ref (ad 3), .ref (ad 4), .ref (ad 5), .ref (ad 6), .ref (ad 7), .ref (ad 8)])), (ad 0, .inl (dA 2, 480, .inl f187))]) hx hb hg hown hK hP hD hS 0 rfl rfl inX10 tyX10_ok nmX10 1 (by decide) q607 rfl rfl rfl (Nat.le_of_ble_eq_true rfl) rfl dX10_append_123 (fun H locs hP hD hS => ?_)
                                refine lv_iinc (v := 0) (lv' := [(4, .int 0), (5, .int (bC v 5)), (0, .ref h0), (1, .long v), (3, .int 6)]) hx hb dX10_append_126 hl (k := 0) rfl (by decide) (by decide) rfl (fun ls hl => ?_)
                                refine lv_goto (tgt := 95) hx hb dX10_append_129 (by decide) ?_
                                refine lv_iload hx hb dX10_append_95 (lv_at hl 0 rfl) ?_
                                refine lv_if_lt (tgt := 132) hx hb dX10_append_97 (by decide) (fun h => absurd h (by decide)) (fun _ => ?_)
                                refine lv_aload_n hx hb dX10_append_100 rfl (lv_at hl 2 rfl) ?_
                                refine g_get hx hb hg hown hK hP 0 rfl rfl inX10 0 (by decide) q606 rfl dX10_append_101 ?_
                                refine lv_aload_n hx hb dX10_append_104 rfl (lv_at hl 2 rfl) ?_
                                refine g_get hx hb hg hown hK hP 0 rfl rfl inX10 1 (by decide) q607 rfl dX10_append_105 ?_
                                refine lv_lload_n hx hb dX10_append_108 rfl (lv_at hl 3 rfl) ?_
                                refine lv_iload hx hb dX10_append_109 (lv_at hl 0 rfl) ?_
                                refine g_Si (n := 2) (As := [.long v, .int 0]) (rest := [.int 5, .ref (ad 0)]) (wr := [(h0, .inr (10, [.ref (ad 0), .int 5, .int (-1), .int (-1), .ref (ad 1), .ref (ad 2), .ref (ad 3), .ref (ad 4), .ref (ad 5), .ref (ad 6), .ref (ad 7), .ref (ad 8)])), (ad 0, .inl (dA 2, 480, .inl f187))]) hx hb hml hg hown hK hP hD hS hA (c_X10_byteOf l D dA v 0 _) [] [0, 1] rfl (by decide) rfl (by decide) (by decide) q749 q149 q747 q748 (by decide +kernel) ⟨(Nat.le_of_ble_eq_true rfl), (Nat.le_of_ble_eq_true rfl)⟩ rfl hl.1 rfl (Nat.le_of_ble_eq_true rfl) dX10_append_111 ⟨(Nat.le_of_ble_eq_true rfl), (Nat.le_of_ble_eq_true rfl)⟩ (fun r189 u188 H locs w190 hP hD hS => ?_)
                                refine W.widen (k := 0) (n := 0) (Nat.le_of_ble_eq_true rfl) (Nat.le_of_ble_eq_true rfl) ?_
                                have hP : va_P D vwC [(h0, .inr (10, [.ref (ad 0), .int 5, .int (-1), .int (-1), .ref (ad 1), .ref (ad 2), .ref (ad 3), .ref (ad 4), .ref (ad 5), .ref (ad 6), .ref (ad 7), .ref (ad 8)])), (ad 0, .inl (dA 2, 480, .inl f187))] H := hP
                                have hD : va_D A [(h0, .inr (10, [.ref (ad 0), .int 5, .int (-1), .int (-1), .ref (ad 1), .ref (ad 2), .ref (ad 3), .ref (ad 4), .ref (ad 5), .ref (ad 6), .ref (ad 7), .ref (ad 8)])), (ad 0, .inl (dA 2, 480, .inl f187))] := hD
                                obtain rfl : r189 = bC v 0 := w190
                                refine lv_i2c (v := (((bC v 0).toUInt32 % 65536).toInt32)) hx hb dX10_append_114 rfl ?_
                                refine va_cast hx hb hK hP hD hS 1 2 rfl rfl (by unfold vp_in; decide) dX10_append_115 (fun H locs hP hD hS => ?_)
                                have hP : va_P D vwC [(h0, .inr (10, [.ref (ad 0), .int 5, .int (-1), .int (-1), .ref (ad 1), .ref (ad 2), .ref (ad 3), .ref (ad 4), .ref (ad 5), .ref (ad 6), .ref (ad 7), .ref (ad 8)])), (ad 0, .inl (dA 2, 480, .inl (upd f187 (5 : Int32).toNatClampNeg (vp_nar .char (((bC v 0).toUInt32 % 65536).toInt32)))))] H := hP
                                have hD : va_D A [(h0, .inr (10, [.ref (ad 0), .int 5, .int (-1), .int (-1), .ref (ad 1), .ref (ad 2), .ref (ad 3), .ref (ad 4), .ref (ad 5), .ref (ad 6), .ref (ad 7), .ref (ad 8)])), (ad 0, .inl (dA 2, 480, .inl (upd f187 (5 : Int32).toNatClampNeg (vp_nar .char (((bC v 0).toUInt32 % 65536).toInt32)))))] := hD
                                generalize (upd f187 (5 : Int32).toNatClampNeg (vp_nar .char (((bC v 0).toUInt32 % 65536).toInt32))) = f191 at hP hD
                                refine lv_aload_n hx hb dX10_append_116 rfl (lv_at hl 2 rfl) ?_
                                refine lv_dup hx hb dX10_append_117 rfl ?_
                                refine g_get hx hb hg hown hK hP 0 rfl rfl inX10 1 (by decide) q607 rfl dX10_append_118 ?_
                                refine lv_iconst (v := 1) hx hb dX10_append_121 (by decide) ?_
                                refine lv_iadd hx hb dX10_append_122 ?_
                                refine g_nrm (y := 6) (by decide) ?_
                                refine g_put (w' := [(h0, .inr (10, [.ref (ad 0), .int 6, .int (-1), .int (-1), .ref (ad 1), .ref (ad 2), .ref (ad 3), .ref (ad 4), .ref (ad 5), .ref (ad 6), .ref (ad 7), .ref (ad 8)])), (ad 0, .inl (dA 2, 480, .inl f191))]) hx hb hg hown hK hP hD hS 0 rfl rfl inX10 tyX10_ok nmX10 1 (by decide) q607 rfl rfl rfl (Nat.le_of_ble_eq_true rfl) rfl dX10_append_123 (fun H locs hP hD hS => ?_)
                                refine lv_iinc (v := (-1)) (lv' := [(4, .int (-1)), (5, .int (bC v 5)), (0, .ref h0), (1, .long v), (3, .int 6)]) hx hb dX10_append_126 hl (k := 0) rfl (by decide) (by decide) rfl (fun ls hl => ?_)
                                refine lv_goto (tgt := 95) hx hb dX10_append_129 (by decide) ?_
                                refine lv_iload hx hb dX10_append_95 (lv_at hl 0 rfl) ?_
                                refine lv_if_lt (tgt := 132) hx hb dX10_append_97 (by decide) (fun _ => ?_) (fun h => absurd (by decide) h)
                                refine lv_aload_n hx hb dX10_append_132 rfl (lv_at hl 2 rfl) ?_
                                refine g_get hx hb hg hown hK hP 0 rfl rfl inX10 1 (by decide) q607 rfl dX10_append_133 ?_
                                exact vx_ret (g_iret hx hb hr rfl hlocks hK () (hP.sub [] rfl) (hD.sub [] rfl rfl) hS ⟨rfl, by unfold gIn; decide, by rw [apI_6]; exact ⟨⟨k141, k142⟩, ⟨k146, k147⟩, ⟨k151, k152⟩, ⟨k156, k157⟩, ⟨k161, k162⟩, ⟨k166, k167⟩, trivial⟩⟩ (Nat.le_of_ble_eq_true rfl) (Nat.le_of_ble_eq_true rfl) dX10_append_136)
                              · exact g_thr (cls := xIAE) (is := 101) (text := "a byte is not 32 .. 126") hx hb hg htr hown (by decide) q731 q167 (by decide +kernel) atIAE (by decide +kernel) hZ hS hml hl.1 hnt hlocks dX10_append_52 dX10_append_55 dX10_append_56 dX10_append_58 dX10_append_61 (Nat.le_of_ble_eq_true rfl) (Nat.le_of_ble_eq_true rfl) (Nat.le_of_ble_eq_true rfl) (Nat.le_of_ble_eq_true rfl) (Nat.le_of_ble_eq_true rfl) (Nat.le_of_ble_eq_true rfl) ⟨rfl, (fun h => by have h := h.2; rw [apI_6] at h; exact k167 h.2.2.2.2.2.1.2)⟩
                          · exact g_thr (cls := xIAE) (is := 101) (text := "a byte is not 32 .. 126") hx hb hg htr hown (by decide) q731 q167 (by decide +kernel) atIAE (by decide +kernel) hZ hS hml hl.1 hnt hlocks dX10_append_52 dX10_append_55 dX10_append_56 dX10_append_58 dX10_append_61 (Nat.le_of_ble_eq_true rfl) (Nat.le_of_ble_eq_true rfl) (Nat.le_of_ble_eq_true rfl) (Nat.le_of_ble_eq_true rfl) (Nat.le_of_ble_eq_true rfl) (Nat.le_of_ble_eq_true rfl) ⟨rfl, (fun h => by have h := h.2; rw [apI_6] at h; exact k162 h.2.2.2.2.1.2)⟩
                      · exact g_thr (cls := xIAE) (is := 101) (text := "a byte is not 32 .. 126") hx hb hg htr hown (by decide) q731 q167 (by decide +kernel) atIAE (by decide +kernel) hZ hS hml hl.1 hnt hlocks dX10_append_52 dX10_append_55 dX10_append_56 dX10_append_58 dX10_append_61 (Nat.le_of_ble_eq_true rfl) (Nat.le_of_ble_eq_true rfl) (Nat.le_of_ble_eq_true rfl) (Nat.le_of_ble_eq_true rfl) (Nat.le_of_ble_eq_true rfl) (Nat.le_of_ble_eq_true rfl) ⟨rfl, (fun h => by have h := h.2; rw [apI_6] at h; exact k157 h.2.2.2.1.2)⟩
                  · exact g_thr (cls := xIAE) (is := 101) (text := "a byte is not 32 .. 126") hx hb hg htr hown (by decide) q731 q167 (by decide +kernel) atIAE (by decide +kernel) hZ hS hml hl.1 hnt hlocks dX10_append_52 dX10_append_55 dX10_append_56 dX10_append_58 dX10_append_61 (Nat.le_of_ble_eq_true rfl) (Nat.le_of_ble_eq_true rfl) (Nat.le_of_ble_eq_true rfl) (Nat.le_of_ble_eq_true rfl) (Nat.le_of_ble_eq_true rfl) (Nat.le_of_ble_eq_true rfl) ⟨rfl, (fun h => by have h := h.2; rw [apI_6] at h; exact k152 h.2.2.1.2)⟩
              · exact g_thr (cls := xIAE) (is := 101) (text := "a byte is not 32 .. 126") hx hb hg htr hown (by decide) q731 q167 (by decide +kernel) atIAE (by decide +kernel) hZ hS hml hl.1 hnt hlocks dX10_append_52 dX10_append_55 dX10_append_56 dX10_append_58 dX10_append_61 (Nat.le_of_ble_eq_true rfl) (Nat.le_of_ble_eq_true rfl) (Nat.le_of_ble_eq_true rfl) (Nat.le_of_ble_eq_true rfl) (Nat.le_of_ble_eq_true rfl) (Nat.le_of_ble_eq_true rfl) ⟨rfl, (fun h => by have h := h.2; rw [apI_6] at h; exact k147 h.2.1.2)⟩
          · exact g_thr (cls := xIAE) (is := 101) (text := "a byte is not 32 .. 126") hx hb hg htr hown (by decide) q731 q167 (by decide +kernel) atIAE (by decide +kernel) hZ hS hml hl.1 hnt hlocks dX10_append_52 dX10_append_55 dX10_append_56 dX10_append_58 dX10_append_61 (Nat.le_of_ble_eq_true rfl) (Nat.le_of_ble_eq_true rfl) (Nat.le_of_ble_eq_true rfl) (Nat.le_of_ble_eq_true rfl) (Nat.le_of_ble_eq_true rfl) (Nat.le_of_ble_eq_true rfl) ⟨rfl, (fun h => by have h := h.2; rw [apI_6] at h; exact k142 h.1.2)⟩
      · refine lv_iconst (v := 0) hx hb dX10_append_21 (by decide) ?_
        refine lv_istore (lv' := [(4, .int 0), (0, .ref h0), (1, .long v), (3, .int 7)]) hx hb dX10_append_22 hl (by decide) rfl (fun ls hl => ?_)
        refine lv_iload hx hb dX10_append_24 (lv_at hl 0 rfl) ?_
        refine lv_iload_n hx hb dX10_append_26 rfl (lv_at hl 3 rfl) ?_
        refine lv_icmp_ge (tgt := 68) hx hb dX10_append_27 (by decide) (fun h => absurd h (by decide)) (fun _ => ?_)
        refine lv_lload_n hx hb dX10_append_30 rfl (lv_at hl 2 rfl) ?_
        refine lv_iload hx hb dX10_append_31 (lv_at hl 0 rfl) ?_
        refine g_Si (n := 2) (As := [.long v, .int 0]) (rest := []) (wr := [(h0, .inr (10, [.ref (ad 0), .int 0, .int (-1), .int (-1), .ref (ad 1), .ref (ad 2), .ref (ad 3), .ref (ad 4), .ref (ad 5), .ref (ad 6), .ref (ad 7), .ref (ad 8)])), (ad 0, .inl (dA 2, 480, .inl (fun _ => 0)))]) hx hb hml hg hown hK hP hD hS hA (c_X10_byteOf l D dA v 0 _) [] [0, 1] rfl (by decide) rfl (by decide) (by decide) q749 q149 q747 q748 (by decide +kernel) ⟨(Nat.le_of_ble_eq_true rfl), (Nat.le_of_ble_eq_true rfl)⟩ rfl hl.1 rfl (Nat.le_of_ble_eq_true rfl) dX10_append_33 ⟨(Nat.le_of_ble_eq_true rfl), (Nat.le_of_ble_eq_true rfl)⟩ (fun r193 u192 H locs w194 hP hD hS => ?_)
        refine W.widen (k := 0) (n := 0) (Nat.le_of_ble_eq_true rfl) (Nat.le_of_ble_eq_true rfl) ?_
        have hP : va_P D vwC [(h0, .inr (10, [.ref (ad 0), .int 0, .int (-1), .int (-1), .ref (ad 1), .ref (ad 2), .ref (ad 3), .ref (ad 4), .ref (ad 5), .ref (ad 6), .ref (ad 7), .ref (ad 8)])), (ad 0, .inl (dA 2, 480, .inl (fun _ => 0)))] H := hP
        have hD : va_D A [(h0, .inr (10, [.ref (ad 0), .int 0, .int (-1), .int (-1), .ref (ad 1), .ref (ad 2), .ref (ad 3), .ref (ad 4), .ref (ad 5), .ref (ad 6), .ref (ad 7), .ref (ad 8)])), (ad 0, .inl (dA 2, 480, .inl (fun _ => 0)))] := hD
        obtain rfl : r193 = bC v 0 := w194
        refine lv_istore (lv' := [(5, .int (bC v 0)), (4, .int 0), (0, .ref h0), (1, .long v), (3, .int 7)]) hx hb dX10_append_36 hl (by decide) rfl (fun ls hl => ?_)
        refine lv_iload hx hb dX10_append_38 (lv_at hl 0 rfl) ?_
        refine lv_bipush (v := 32) hx hb dX10_append_40 (by decide) ?_
        refine lv_icmp_lt (tgt := 52) hx hb dX10_append_42 (by decide) (fun k195 => ?_) (fun k195 => ?_)
        · exact g_thr (cls := xIAE) (is := 101) (text := "a byte is not 32 .. 126") hx hb hg htr hown (by decide) q731 q167 (by decide +kernel) atIAE (by decide +kernel) hZ hS hml hl.1 hnt hlocks dX10_append_52 dX10_append_55 dX10_append_56 dX10_append_58 dX10_append_61 (Nat.le_of_ble_eq_true rfl) (Nat.le_of_ble_eq_true rfl) (Nat.le_of_ble_eq_true rfl) (Nat.le_of_ble_eq_true rfl) (Nat.le_of_ble_eq_true rfl) (Nat.le_of_ble_eq_true rfl) ⟨rfl, (fun h => by have h := h.2; rw [apI_7] at h; exact h.1.1 k195)⟩
        · refine lv_iload hx hb dX10_append_45 (lv_at hl 0 rfl) ?_
          refine lv_bipush (v := 126) hx hb dX10_append_47 (by decide) ?_
          refine lv_icmp_le (tgt := 62) hx hb dX10_append_49 (by decide) (fun k196 => ?_) (fun k196 => ?_)
          · refine lv_iinc (v := 1) (lv' := [(4, .int 1), (5, .int (bC v 0)), (0, .ref h0), (1, .long v), (3, .int 7)]) hx hb dX10_append_62 hl (k := 1) rfl (by decide) (by decide) rfl (fun ls hl => ?_)
            refine lv_goto (tgt := 24) hx hb dX10_append_65 (by decide) ?_
            refine lv_iload hx hb dX10_append_24 (lv_at hl 0 rfl) ?_
            refine lv_iload_n hx hb dX10_append_26 rfl (lv_at hl 4 rfl) ?_
            refine lv_icmp_ge (tgt := 68) hx hb dX10_append_27 (by decide) (fun h => absurd h (by decide)) (fun _ => ?_)
            refine lv_lload_n hx hb dX10_append_30 rfl (lv_at hl 3 rfl) ?_
            refine lv_iload hx hb dX10_append_31 (lv_at hl 0 rfl) ?_
            refine g_Si (n := 2) (As := [.long v, .int 1]) (rest := []) (wr := [(h0, .inr (10, [.ref (ad 0), .int 0, .int (-1), .int (-1), .ref (ad 1), .ref (ad 2), .ref (ad 3), .ref (ad 4), .ref (ad 5), .ref (ad 6), .ref (ad 7), .ref (ad 8)])), (ad 0, .inl (dA 2, 480, .inl (fun _ => 0)))]) hx hb hml hg hown hK hP hD hS hA (c_X10_byteOf l D dA v 1 _) [] [0, 1] rfl (by decide) rfl (by decide) (by decide) q749 q149 q747 q748 (by decide +kernel) ⟨(Nat.le_of_ble_eq_true rfl), (Nat.le_of_ble_eq_true rfl)⟩ rfl hl.1 rfl (Nat.le_of_ble_eq_true rfl) dX10_append_33 ⟨(Nat.le_of_ble_eq_true rfl), (Nat.le_of_ble_eq_true rfl)⟩ (fun r198 u197 H locs w199 hP hD hS => ?_)
            refine W.widen (k := 0) (n := 0) (Nat.le_of_ble_eq_true rfl) (Nat.le_of_ble_eq_true rfl) ?_
            have hP : va_P D vwC [(h0, .inr (10, [.ref (ad 0), .int 0, .int (-1), .int (-1), .ref (ad 1), .ref (ad 2), .ref (ad 3), .ref (ad 4), .ref (ad 5), .ref (ad 6), .ref (ad 7), .ref (ad 8)])), (ad 0, .inl (dA 2, 480, .inl (fun _ => 0)))] H := hP
            have hD : va_D A [(h0, .inr (10, [.ref (ad 0), .int 0, .int (-1), .int (-1), .ref (ad 1), .ref (ad 2), .ref (ad 3), .ref (ad 4), .ref (ad 5), .ref (ad 6), .ref (ad 7), .ref (ad 8)])), (ad 0, .inl (dA 2, 480, .inl (fun _ => 0)))] := hD
            obtain rfl : r198 = bC v 1 := w199
            refine lv_istore (lv' := [(5, .int (bC v 1)), (4, .int 1), (0, .ref h0), (1, .long v), (3, .int 7)]) hx hb dX10_append_36 hl (by decide) rfl (fun ls hl => ?_)
            refine lv_iload hx hb dX10_append_38 (lv_at hl 0 rfl) ?_
            refine lv_bipush (v := 32) hx hb dX10_append_40 (by decide) ?_
            refine lv_icmp_lt (tgt := 52) hx hb dX10_append_42 (by decide) (fun k200 => ?_) (fun k200 => ?_)
            · exact g_thr (cls := xIAE) (is := 101) (text := "a byte is not 32 .. 126") hx hb hg htr hown (by decide) q731 q167 (by decide +kernel) atIAE (by decide +kernel) hZ hS hml hl.1 hnt hlocks dX10_append_52 dX10_append_55 dX10_append_56 dX10_append_58 dX10_append_61 (Nat.le_of_ble_eq_true rfl) (Nat.le_of_ble_eq_true rfl) (Nat.le_of_ble_eq_true rfl) (Nat.le_of_ble_eq_true rfl) (Nat.le_of_ble_eq_true rfl) (Nat.le_of_ble_eq_true rfl) ⟨rfl, (fun h => by have h := h.2; rw [apI_7] at h; exact h.2.1.1 k200)⟩
            · refine lv_iload hx hb dX10_append_45 (lv_at hl 0 rfl) ?_
              refine lv_bipush (v := 126) hx hb dX10_append_47 (by decide) ?_
              refine lv_icmp_le (tgt := 62) hx hb dX10_append_49 (by decide) (fun k201 => ?_) (fun k201 => ?_)
              · refine lv_iinc (v := 2) (lv' := [(4, .int 2), (5, .int (bC v 1)), (0, .ref h0), (1, .long v), (3, .int 7)]) hx hb dX10_append_62 hl (k := 1) rfl (by decide) (by decide) rfl (fun ls hl => ?_)
                refine lv_goto (tgt := 24) hx hb dX10_append_65 (by decide) ?_
                refine lv_iload hx hb dX10_append_24 (lv_at hl 0 rfl) ?_
                refine lv_iload_n hx hb dX10_append_26 rfl (lv_at hl 4 rfl) ?_
                refine lv_icmp_ge (tgt := 68) hx hb dX10_append_27 (by decide) (fun h => absurd h (by decide)) (fun _ => ?_)
                refine lv_lload_n hx hb dX10_append_30 rfl (lv_at hl 3 rfl) ?_
                refine lv_iload hx hb dX10_append_31 (lv_at hl 0 rfl) ?_
                refine g_Si (n := 2) (As := [.long v, .int 2]) (rest := []) (wr := [(h0, .inr (10, [.ref (ad 0), .int 0, .int (-1), .int (-1), .ref (ad 1), .ref (ad 2), .ref (ad 3), .ref (ad 4), .ref (ad 5), .ref (ad 6), .ref (ad 7), .ref (ad 8)])), (ad 0, .inl (dA 2, 480, .inl (fun _ => 0)))]) hx hb hml hg hown hK hP hD hS hA (c_X10_byteOf l D dA v 2 _) [] [0, 1] rfl (by decide) rfl (by decide) (by decide) q749 q149 q747 q748 (by decide +kernel) ⟨(Nat.le_of_ble_eq_true rfl), (Nat.le_of_ble_eq_true rfl)⟩ rfl hl.1 rfl (Nat.le_of_ble_eq_true rfl) dX10_append_33 ⟨(Nat.le_of_ble_eq_true rfl), (Nat.le_of_ble_eq_true rfl)⟩ (fun r203 u202 H locs w204 hP hD hS => ?_)
                refine W.widen (k := 0) (n := 0) (Nat.le_of_ble_eq_true rfl) (Nat.le_of_ble_eq_true rfl) ?_
                have hP : va_P D vwC [(h0, .inr (10, [.ref (ad 0), .int 0, .int (-1), .int (-1), .ref (ad 1), .ref (ad 2), .ref (ad 3), .ref (ad 4), .ref (ad 5), .ref (ad 6), .ref (ad 7), .ref (ad 8)])), (ad 0, .inl (dA 2, 480, .inl (fun _ => 0)))] H := hP
                have hD : va_D A [(h0, .inr (10, [.ref (ad 0), .int 0, .int (-1), .int (-1), .ref (ad 1), .ref (ad 2), .ref (ad 3), .ref (ad 4), .ref (ad 5), .ref (ad 6), .ref (ad 7), .ref (ad 8)])), (ad 0, .inl (dA 2, 480, .inl (fun _ => 0)))] := hD
                obtain rfl : r203 = bC v 2 := w204
                refine lv_istore (lv' := [(5, .int (bC v 2)), (4, .int 2), (0, .ref h0), (1, .long v), (3, .int 7)]) hx hb dX10_append_36 hl (by decide) rfl (fun ls hl => ?_)
                refine lv_iload hx hb dX10_append_38 (lv_at hl 0 rfl) ?_
                refine lv_bipush (v := 32) hx hb dX10_append_40 (by decide) ?_
                refine lv_icmp_lt (tgt := 52) hx hb dX10_append_42 (by decide) (fun k205 => ?_) (fun k205 => ?_)
                · exact g_thr (cls := xIAE) (is := 101) (text := "a byte is not 32 .. 126") hx hb hg htr hown (by decide) q731 q167 (by decide +kernel) atIAE (by decide +kernel) hZ hS hml hl.1 hnt hlocks dX10_append_52 dX10_append_55 dX10_append_56 dX10_append_58 dX10_append_61 (Nat.le_of_ble_eq_true rfl) (Nat.le_of_ble_eq_true rfl) (Nat.le_of_ble_eq_true rfl) (Nat.le_of_ble_eq_true rfl) (Nat.le_of_ble_eq_true rfl) (Nat.le_of_ble_eq_true rfl) ⟨rfl, (fun h => by have h := h.2; rw [apI_7] at h; exact h.2.2.1.1 k205)⟩
                · refine lv_iload hx hb dX10_append_45 (lv_at hl 0 rfl) ?_
                  refine lv_bipush (v := 126) hx hb dX10_append_47 (by decide) ?_
                  refine lv_icmp_le (tgt := 62) hx hb dX10_append_49 (by decide) (fun k206 => ?_) (fun k206 => ?_)
                  · refine lv_iinc (v := 3) (lv' := [(4, .int 3), (5, .int (bC v 2)), (0, .ref h0), (1, .long v), (3, .int 7)]) hx hb dX10_append_62 hl (k := 1) rfl (by decide) (by decide) rfl (fun ls hl => ?_)
                    refine lv_goto (tgt := 24) hx hb dX10_append_65 (by decide) ?_
                    refine lv_iload hx hb dX10_append_24 (lv_at hl 0 rfl) ?_
                    refine lv_iload_n hx hb dX10_append_26 rfl (lv_at hl 4 rfl) ?_
                    refine lv_icmp_ge (tgt := 68) hx hb dX10_append_27 (by decide) (fun h => absurd h (by decide)) (fun _ => ?_)
                    refine lv_lload_n hx hb dX10_append_30 rfl (lv_at hl 3 rfl) ?_
                    refine lv_iload hx hb dX10_append_31 (lv_at hl 0 rfl) ?_
                    refine g_Si (n := 2) (As := [.long v, .int 3]) (rest := []) (wr := [(h0, .inr (10, [.ref (ad 0), .int 0, .int (-1), .int (-1), .ref (ad 1), .ref (ad 2), .ref (ad 3), .ref (ad 4), .ref (ad 5), .ref (ad 6), .ref (ad 7), .ref (ad 8)])), (ad 0, .inl (dA 2, 480, .inl (fun _ => 0)))]) hx hb hml hg hown hK hP hD hS hA (c_X10_byteOf l D dA v 3 _) [] [0, 1] rfl (by decide) rfl (by decide) (by decide) q749 q149 q747 q748 (by decide +kernel) ⟨(Nat.le_of_ble_eq_true rfl), (Nat.le_of_ble_eq_true rfl)⟩ rfl hl.1 rfl (Nat.le_of_ble_eq_true rfl) dX10_append_33 ⟨(Nat.le_of_ble_eq_true rfl), (Nat.le_of_ble_eq_true rfl)⟩ (fun r208 u207 H locs w209 hP hD hS => ?_)
                    refine W.widen (k := 0) (n := 0) (Nat.le_of_ble_eq_true rfl) (Nat.le_of_ble_eq_true rfl) ?_
                    have hP : va_P D vwC [(h0, .inr (10, [.ref (ad 0), .int 0, .int (-1), .int (-1), .ref (ad 1), .ref (ad 2), .ref (ad 3), .ref (ad 4), .ref (ad 5), .ref (ad 6), .ref (ad 7), .ref (ad 8)])), (ad 0, .inl (dA 2, 480, .inl (fun _ => 0)))] H := hP
                    have hD : va_D A [(h0, .inr (10, [.ref (ad 0), .int 0, .int (-1), .int (-1), .ref (ad 1), .ref (ad 2), .ref (ad 3), .ref (ad 4), .ref (ad 5), .ref (ad 6), .ref (ad 7), .ref (ad 8)])), (ad 0, .inl (dA 2, 480, .inl (fun _ => 0)))] := hD
                    obtain rfl : r208 = bC v 3 := w209
                    refine lv_istore (lv' := [(5, .int (bC v 3)), (4, .int 3), (0, .ref h0), (1, .long v), (3, .int 7)]) hx hb dX10_append_36 hl (by decide) rfl (fun ls hl => ?_)
                    refine lv_iload hx hb dX10_append_38 (lv_at hl 0 rfl) ?_
                    refine lv_bipush (v := 32) hx hb dX10_append_40 (by decide) ?_
                    refine lv_icmp_lt (tgt := 52) hx hb dX10_append_42 (by decide) (fun k210 => ?_) (fun k210 => ?_)
                    · exact g_thr (cls := xIAE) (is := 101) (text := "a byte is not 32 .. 126") hx hb hg htr hown (by decide) q731 q167 (by decide +kernel) atIAE (by decide +kernel) hZ hS hml hl.1 hnt hlocks dX10_append_52 dX10_append_55 dX10_append_56 dX10_append_58 dX10_append_61 (Nat.le_of_ble_eq_true rfl) (Nat.le_of_ble_eq_true rfl) (Nat.le_of_ble_eq_true rfl) (Nat.le_of_ble_eq_true rfl) (Nat.le_of_ble_eq_true rfl) (Nat.le_of_ble_eq_true rfl) ⟨rfl, (fun h => by have h := h.2; rw [apI_7] at h; exact h.2.2.2.1.1 k210)⟩
                    · refine lv_iload hx hb dX10_append_45 (lv_at hl 0 rfl) ?_
                      refine lv_bipush (v := 126) hx hb dX10_append_47 (by decide) ?_
                      refine lv_icmp_le (tgt := 62) hx hb dX10_append_49 (by decide) (fun k211 => ?_) (fun k211 => ?_)
                      · refine lv_iinc (v := 4) (lv' := [(4, .int 4), (5, .int (bC v 3)), (0, .ref h0), (1, .long v), (3, .int 7)]) hx hb dX10_append_62 hl (k := 1) rfl (by decide) (by decide) rfl (fun ls hl => ?_)
                        refine lv_goto (tgt := 24) hx hb dX10_append_65 (by decide) ?_
                        refine lv_iload hx hb dX10_append_24 (lv_at hl 0 rfl) ?_
                        refine lv_iload_n hx hb dX10_append_26 rfl (lv_at hl 4 rfl) ?_
                        refine lv_icmp_ge (tgt := 68) hx hb dX10_append_27 (by decide) (fun h => absurd h (by decide)) (fun _ => ?_)
                        refine lv_lload_n hx hb dX10_append_30 rfl (lv_at hl 3 rfl) ?_
                        refine lv_iload hx hb dX10_append_31 (lv_at hl 0 rfl) ?_
                        refine g_Si (n := 2) (As := [.long v, .int 4]) (rest := []) (wr := [(h0, .inr (10, [.ref (ad 0), .int 0, .int (-1), .int (-1), .ref (ad 1), .ref (ad 2), .ref (ad 3), .ref (ad 4), .ref (ad 5), .ref (ad 6), .ref (ad 7), .ref (ad 8)])), (ad 0, .inl (dA 2, 480, .inl (fun _ => 0)))]) hx hb hml hg hown hK hP hD hS hA (c_X10_byteOf l D dA v 4 _) [] [0, 1] rfl (by decide) rfl (by decide) (by decide) q749 q149 q747 q748 (by decide +kernel) ⟨(Nat.le_of_ble_eq_true rfl), (Nat.le_of_ble_eq_true rfl)⟩ rfl hl.1 rfl (Nat.le_of_ble_eq_true rfl) dX10_append_33 ⟨(Nat.le_of_ble_eq_true rfl), (Nat.le_of_ble_eq_true rfl)⟩ (fun r213 u212 H locs w214 hP hD hS => ?_)
                        refine W.widen (k := 0) (n := 0) (Nat.le_of_ble_eq_true rfl) (Nat.le_of_ble_eq_true rfl) ?_
                        have hP : va_P D vwC [(h0, .inr (10, [.ref (ad 0), .int 0, .int (-1), .int (-1), .ref (ad 1), .ref (ad 2), .ref (ad 3), .ref (ad 4), .ref (ad 5), .ref (ad 6), .ref (ad 7), .ref (ad 8)])), (ad 0, .inl (dA 2, 480, .inl (fun _ => 0)))] H := hP
                        have hD : va_D A [(h0, .inr (10, [.ref (ad 0), .int 0, .int (-1), .int (-1), .ref (ad 1), .ref (ad 2), .ref (ad 3), .ref (ad 4), .ref (ad 5), .ref (ad 6), .ref (ad 7), .ref (ad 8)])), (ad 0, .inl (dA 2, 480, .inl (fun _ => 0)))] := hD
                        obtain rfl : r213 = bC v 4 := w214
                        refine lv_istore (lv' := [(5, .int (bC v 4)), (4, .int 4), (0, .ref h0), (1, .long v), (3, .int 7)]) hx hb dX10_append_36 hl (by decide) rfl (fun ls hl => ?_)
                        refine lv_iload hx hb dX10_append_38 (lv_at hl 0 rfl) ?_
                        refine lv_bipush (v := 32) hx hb dX10_append_40 (by decide) ?_
                        refine lv_icmp_lt (tgt := 52) hx hb dX10_append_42 (by decide) (fun k215 => ?_) (fun k215 => ?_)
                        · exact g_thr (cls := xIAE) (is := 101) (text := "a byte is not 32 .. 126") hx hb hg htr hown (by decide) q731 q167 (by decide +kernel) atIAE (by decide +kernel) hZ hS hml hl.1 hnt hlocks dX10_append_52 dX10_append_55 dX10_append_56 dX10_append_58 dX10_append_61 (Nat.le_of_ble_eq_true rfl) (Nat.le_of_ble_eq_true rfl) (Nat.le_of_ble_eq_true rfl) (Nat.le_of_ble_eq_true rfl) (Nat.le_of_ble_eq_true rfl) (Nat.le_of_ble_eq_true rfl) ⟨rfl, (fun h => by have h := h.2; rw [apI_7] at h; exact h.2.2.2.2.1.1 k215)⟩
                        · refine lv_iload hx hb dX10_append_45 (lv_at hl 0 rfl) ?_
                          refine lv_bipush (v := 126) hx hb dX10_append_47 (by decide) ?_
                          refine lv_icmp_le (tgt := 62) hx hb dX10_append_49 (by decide) (fun k216 => ?_) (fun k216 => ?_)
                          · refine lv_iinc (v := 5) (lv' := [(4, .int 5), (5, .int (bC v 4)), (0, .ref h0), (1, .long v), (3, .int 7)]) hx hb dX10_append_62 hl (k := 1) rfl (by decide) (by decide) rfl (fun ls hl => ?_)
                            refine lv_goto (tgt := 24) hx hb dX10_append_65 (by decide) ?_
                            refine lv_iload hx hb dX10_append_24 (lv_at hl 0 rfl) ?_
                            refine lv_iload_n hx hb dX10_append_26 rfl (lv_at hl 4 rfl) ?_
                            refine lv_icmp_ge (tgt := 68) hx hb dX10_append_27 (by decide) (fun h => absurd h (by decide)) (fun _ => ?_)
                            refine lv_lload_n hx hb dX10_append_30 rfl (lv_at hl 3 rfl) ?_
                            refine lv_iload hx hb dX10_append_31 (lv_at hl 0 rfl) ?_
                            refine g_Si (n := 2) (As := [.long v, .int 5]) (rest := []) (wr := [(h0, .inr (10, [.ref (ad 0), .int 0, .int (-1), .int (-1), .ref (ad 1), .ref (ad 2), .ref (ad 3), .ref (ad 4), .ref (ad 5), .ref (ad 6), .ref (ad 7), .ref (ad 8)])), (ad 0, .inl (dA 2, 480, .inl (fun _ => 0)))]) hx hb hml hg hown hK hP hD hS hA (c_X10_byteOf l D dA v 5 _) [] [0, 1] rfl (by decide) rfl (by decide) (by decide) q749 q149 q747 q748 (by decide +kernel) ⟨(Nat.le_of_ble_eq_true rfl), (Nat.le_of_ble_eq_true rfl)⟩ rfl hl.1 rfl (Nat.le_of_ble_eq_true rfl) dX10_append_33 ⟨(Nat.le_of_ble_eq_true rfl), (Nat.le_of_ble_eq_true rfl)⟩ (fun r218 u217 H locs w219 hP hD hS => ?_)
                            refine W.widen (k := 0) (n := 0) (Nat.le_of_ble_eq_true rfl) (Nat.le_of_ble_eq_true rfl) ?_
                            have hP : va_P D vwC [(h0, .inr (10, [.ref (ad 0), .int 0, .int (-1), .int (-1), .ref (ad 1), .ref (ad 2), .ref (ad 3), .ref (ad 4), .ref (ad 5), .ref (ad 6), .ref (ad 7), .ref (ad 8)])), (ad 0, .inl (dA 2, 480, .inl (fun _ => 0)))] H := hP
                            have hD : va_D A [(h0, .inr (10, [.ref (ad 0), .int 0, .int (-1), .int (-1), .ref (ad 1), .ref (ad 2), .ref (ad 3), .ref (ad 4), .ref (ad 5), .ref (ad 6), .ref (ad 7), .ref (ad 8)])), (ad 0, .inl (dA 2, 480, .inl (fun _ => 0)))] := hD
                            obtain rfl : r218 = bC v 5 := w219
                            refine lv_istore (lv' := [(5, .int (bC v 5)), (4, .int 5), (0, .ref h0), (1, .long v), (3, .int 7)]) hx hb dX10_append_36 hl (by decide) rfl (fun ls hl => ?_)
                            refine lv_iload hx hb dX10_append_38 (lv_at hl 0 rfl) ?_
                            refine lv_bipush (v := 32) hx hb dX10_append_40 (by decide) ?_
                            refine lv_icmp_lt (tgt := 52) hx hb dX10_append_42 (by decide) (fun k220 => ?_) (fun k220 => ?_)
                            · exact g_thr (cls := xIAE) (is := 101) (text := "a byte is not 32 .. 126") hx hb hg htr hown (by decide) q731 q167 (by decide +kernel) atIAE (by decide +kernel) hZ hS hml hl.1 hnt hlocks dX10_append_52 dX10_append_55 dX10_append_56 dX10_append_58 dX10_append_61 (Nat.le_of_ble_eq_true rfl) (Nat.le_of_ble_eq_true rfl) (Nat.le_of_ble_eq_true rfl) (Nat.le_of_ble_eq_true rfl) (Nat.le_of_ble_eq_true rfl) (Nat.le_of_ble_eq_true rfl) ⟨rfl, (fun h => by have h := h.2; rw [apI_7] at h; exact h.2.2.2.2.2.1.1 k220)⟩
                            · refine lv_iload hx hb dX10_append_45 (lv_at hl 0 rfl) ?_
                              refine lv_bipush (v := 126) hx hb dX10_append_47 (by decide) ?_
                              refine lv_icmp_le (tgt := 62) hx hb dX10_append_49 (by decide) (fun k221 => ?_) (fun k221 => ?_)
                              · refine lv_iinc (v := 6) (lv' := [(4, .int 6), (5, .int (bC v 5)), (0, .ref h0), (1, .long v), (3, .int 7)]) hx hb dX10_append_62 hl (k := 1) rfl (by decide) (by decide) rfl (fun ls hl => ?_)
                                refine lv_goto (tgt := 24) hx hb dX10_append_65 (by decide) ?_
                                refine lv_iload hx hb dX10_append_24 (lv_at hl 0 rfl) ?_
                                refine lv_iload_n hx hb dX10_append_26 rfl (lv_at hl 4 rfl) ?_
                                refine lv_icmp_ge (tgt := 68) hx hb dX10_append_27 (by decide) (fun h => absurd h (by decide)) (fun _ => ?_)
                                refine lv_lload_n hx hb dX10_append_30 rfl (lv_at hl 3 rfl) ?_
                                refine lv_iload hx hb dX10_append_31 (lv_at hl 0 rfl) ?_
                                refine g_Si (n := 2) (As := [.long v, .int 6]) (rest := []) (wr := [(h0, .inr (10, [.ref (ad 0), .int 0, .int (-1), .int (-1), .ref (ad 1), .ref (ad 2), .ref (ad 3), .ref (ad 4), .ref (ad 5), .ref (ad 6), .ref (ad 7), .ref (ad 8)])), (ad 0, .inl (dA 2, 480, .inl (fun _ => 0)))]) hx hb hml hg hown hK hP hD hS hA (c_X10_byteOf l D dA v 6 _) [] [0, 1] rfl (by decide) rfl (by decide) (by decide) q749 q149 q747 q748 (by decide +kernel) ⟨(Nat.le_of_ble_eq_true rfl), (Nat.le_of_ble_eq_true rfl)⟩ rfl hl.1 rfl (Nat.le_of_ble_eq_true rfl) dX10_append_33 ⟨(Nat.le_of_ble_eq_true rfl), (Nat.le_of_ble_eq_true rfl)⟩ (fun r223 u222 H locs w224 hP hD hS => ?_)
                                refine W.widen (k := 0) (n := 0) (Nat.le_of_ble_eq_true rfl) (Nat.le_of_ble_eq_true rfl) ?_
                                have hP : va_P D vwC [(h0, .inr (10, [.ref (ad 0), .int 0, .int (-1), .int (-1), .ref (ad 1), .ref (ad 2), .ref (ad 3), .ref (ad 4), .ref (ad 5), .ref (ad 6), .ref (ad 7), .ref (ad 8)])), (ad 0, .inl (dA 2, 480, .inl (fun _ => 0)))] H := hP
                                have hD : va_D A [(h0, .inr (10, [.ref (ad 0), .int 0, .int (-1), .int (-1), .ref (ad 1), .ref (ad 2), .ref (ad 3), .ref (ad 4), .ref (ad 5), .ref (ad 6), .ref (ad 7), .ref (ad 8)])), (ad 0, .inl (dA 2, 480, .inl (fun _ => 0)))] := hD
                                obtain rfl : r223 = bC v 6 := w224
                                refine lv_istore (lv' := [(5, .int (bC v 6)), (4, .int 6), (0, .ref h0), (1, .long v), (3, .int 7)]) hx hb dX10_append_36 hl (by decide) rfl (fun ls hl => ?_)
                                refine lv_iload hx hb dX10_append_38 (lv_at hl 0 rfl) ?_
                                refine lv_bipush (v := 32) hx hb dX10_append_40 (by decide) ?_
                                refine lv_icmp_lt (tgt := 52) hx hb dX10_append_42 (by decide) (fun k225 => ?_) (fun k225 => ?_)
                                · exact g_thr (cls := xIAE) (is := 101) (text := "a byte is not 32 .. 126") hx hb hg htr hown (by decide) q731 q167 (by decide +kernel) atIAE (by decide +kernel) hZ hS hml hl.1 hnt hlocks dX10_append_52 dX10_append_55 dX10_append_56 dX10_append_58 dX10_append_61 (Nat.le_of_ble_eq_true rfl) (Nat.le_of_ble_eq_true rfl) (Nat.le_of_ble_eq_true rfl) (Nat.le_of_ble_eq_true rfl) (Nat.le_of_ble_eq_true rfl) (Nat.le_of_ble_eq_true rfl) ⟨rfl, (fun h => by have h := h.2; rw [apI_7] at h; exact h.2.2.2.2.2.2.1.1 k225)⟩
                                · refine lv_iload hx hb dX10_append_45 (lv_at hl 0 rfl) ?_
                                  refine lv_bipush (v := 126) hx hb dX10_append_47 (by decide) ?_
                                  refine lv_icmp_le (tgt := 62) hx hb dX10_append_49 (by decide) (fun k226 => ?_) (fun k226 => ?_)
                                  · refine lv_iinc (v := 7) (lv' := [(4, .int 7), (5, .int (bC v 6)), (0, .ref h0), (1, .long v), (3, .int 7)]) hx hb dX10_append_62 hl (k := 1) rfl (by decide) (by decide) rfl (fun ls hl => ?_)
                                    refine lv_goto (tgt := 24) hx hb dX10_append_65 (by decide) ?_
                                    refine lv_iload hx hb dX10_append_24 (lv_at hl 0 rfl) ?_
                                    refine lv_iload_n hx hb dX10_append_26 rfl (lv_at hl 4 rfl) ?_
                                    refine lv_icmp_ge (tgt := 68) hx hb dX10_append_27 (by decide) (fun _ => ?_) (fun h => absurd (by decide) h)
                                    refine lv_aload_n hx hb dX10_append_68 rfl (lv_at hl 2 rfl) ?_
                                    refine g_get hx hb hg hown hK hP 0 rfl rfl inX10 1 (by decide) q607 rfl dX10_append_69 ?_
                                    refine lv_iload_n hx hb dX10_append_72 rfl (lv_at hl 4 rfl) ?_
                                    refine lv_iadd hx hb dX10_append_73 ?_
                                    refine g_nrm (y := 7) (by decide) ?_
                                    refine lv_sipush (v := 480) hx hb dX10_append_74 (by decide) ?_
                                    refine lv_icmp_le (tgt := 90) hx hb dX10_append_77 (by decide) (fun _ => ?_) (fun h => absurd (by decide) h)
                                    refine lv_iload_n hx hb dX10_append_90 rfl (lv_at hl 4 rfl) ?_
                                    refine lv_iconst (v := 1) hx hb dX10_append_91 (by decide) ?_
                                    refine lv_isub hx hb dX10_append_92 ?_
                                    refine g_nrm (y := 6) (by decide) ?_
                                    refine lv_istore (lv' := [(4, .int 6), (5, .int (bC v 6)), (0, .ref h0), (1, .long v), (3, .int 7)]) hx hb dX10_append_93 hl (by decide) rfl (fun ls hl => ?_)
                                    refine lv_iload hx hb dX10_append_95 (lv_at hl 0 rfl) ?_
                                    refine lv_if_lt (tgt := 132) hx hb dX10_append_97 (by decide) (fun h => absurd h (by decide)) (fun _ => ?_)
                                    refine lv_aload_n hx hb dX10_append_100 rfl (lv_at hl 2 rfl) ?_
                                    refine g_get hx hb hg hown hK hP 0 rfl rfl inX10 0 (by decide) q606 rfl dX10_append_101 ?_
                                    refine lv_aload_n hx hb dX10_append_104 rfl (lv_at hl 2 rfl) ?_
                                    refine g_get hx hb hg hown hK hP 0 rfl rfl inX10 1 (by decide) q607 rfl dX10_append_105 ?_
                                    refine lv_lload_n hx hb dX10_append_108 rfl (lv_at hl 3 rfl) ?_
                                    refine lv_iload hx hb dX10_append_109 (lv_at hl 0 rfl) ?_
                                    refine g_Si (n := 2) (As := [.long v, .int 6]) (rest := [.int 0, .ref (ad 0)]) (wr := [(h0, .inr (10, [.ref (ad 0), .int 0, .int (-1), .int (-1), .ref (ad 1), .ref (ad 2), .ref (ad 3), .ref (ad 4), .ref (ad 5), .ref (ad 6), .ref (ad 7), .ref (ad 8)])), (ad 0, .inl (dA 2, 480, .inl (fun _ => 0)))]) hx hb hml hg hown hK hP hD hS hA (c_X10_byteOf l D dA v 6 _) [] [0, 1] rfl (by decide) rfl (by decide) (by decide) q749 q149 q747 q748 (by decide +kernel) ⟨(Nat.le_of_ble_eq_true rfl), (Nat.le_of_ble_eq_true rfl)⟩ rfl hl.1 rfl (Nat.le_of_ble_eq_true rfl) dX10_append_111 ⟨(Nat.le_of_ble_eq_true rfl), (Nat.le_of_ble_eq_true rfl)⟩ (fun r228 u227 H locs w229 hP hD hS => ?_)
                                    refine W.widen (k := 0) (n := 0) (Nat.le_of_ble_eq_true rfl) (Nat.le_of_ble_eq_true rfl) ?_
                                    have hP : va_P D vwC [(h0, .inr (10, [.ref (ad 0), .int 0, .int (-1), .int (-1), .ref (ad 1), .ref (ad 2), .ref (ad 3), .ref (ad 4), .ref (ad 5), .ref (ad 6), .ref (ad 7), .ref (ad 8)])), (ad 0, .inl (dA 2, 480, .inl (fun _ => 0)))] H := hP
                                    have hD : va_D A [(h0, .inr (10, [.ref (ad 0), .int 0, .int (-1), .int (-1), .ref (ad 1), .ref (ad 2), .ref (ad 3), .ref (ad 4), .ref (ad 5), .ref (ad 6), .ref (ad 7), .ref (ad 8)])), (ad 0, .inl (dA 2, 480, .inl (fun _ => 0)))] := hD
                                    obtain rfl : r228 = bC v 6 := w229
                                    refine lv_i2c (v := (((bC v 6).toUInt32 % 65536).toInt32)) hx hb dX10_append_114 rfl ?_
                                    refine va_cast hx hb hK hP hD hS 1 2 rfl rfl (by unfold vp_in; decide) dX10_append_115 (fun H locs hP hD hS => ?_)
                                    have hP : va_P D vwC [(h0, .inr (10, [.ref (ad 0), .int 0, .int (-1), .int (-1), .ref (ad 1), .ref (ad 2), .ref (ad 3), .ref (ad 4), .ref (ad 5), .ref (ad 6), .ref (ad 7), .ref (ad 8)])), (ad 0, .inl (dA 2, 480, .inl (upd (fun _ => 0) (0 : Int32).toNatClampNeg (vp_nar .char (((bC v 6).toUInt32 % 65536).toInt32)))))] H := hP
                                    have hD : va_D A [(h0, .inr (10, [.ref (ad 0), .int 0, .int (-1), .int (-1), .ref (ad 1), .ref (ad 2), .ref (ad 3), .ref (ad 4), .ref (ad 5), .ref (ad 6), .ref (ad 7), .ref (ad 8)])), (ad 0, .inl (dA 2, 480, .inl (upd (fun _ => 0) (0 : Int32).toNatClampNeg (vp_nar .char (((bC v 6).toUInt32 % 65536).toInt32)))))] := hD
                                    generalize (upd (fun _ => 0) (0 : Int32).toNatClampNeg (vp_nar .char (((bC v 6).toUInt32 % 65536).toInt32))) = f230 at hP hD
                                    refine lv_aload_n hx hb dX10_append_116 rfl (lv_at hl 2 rfl) ?_
                                    refine lv_dup hx hb dX10_append_117 rfl ?_
                                    refine g_get hx hb hg hown hK hP 0 rfl rfl inX10 1 (by decide) q607 rfl dX10_append_118 ?_
                                    refine lv_iconst (v := 1) hx hb dX10_append_121 (by decide) ?_
                                    refine lv_iadd hx hb dX10_append_122 ?_
                                    refine g_nrm (y := 1) (by decide) ?_
                                    refine g_put (w' := [(h0, .inr (10, [.ref (ad 0), .int 1, .int (-1), .int (-1), .ref (ad 1), .ref (ad 2), .ref (ad 3), .ref (ad 4), .ref (ad 5), .ref (ad 6), .ref (ad 7), .ref (ad 8)])), (ad 0, .inl (dA 2, 480, .inl f230))]) hx hb hg hown hK hP hD hS 0 rfl rfl inX10 tyX10_ok nmX10 1 (by decide) q607 rfl rfl rfl (Nat.le_of_ble_eq_true rfl) rfl dX10_append_123 (fun H locs hP hD hS => ?_)
                                    refine lv_iinc (v := 5) (lv' := [(4, .int 5), (5, .int (bC v 6)), (0, .ref h0), (1, .long v), (3, .int 7)]) hx hb dX10_append_126 hl (k := 0) rfl (by decide) (by decide) rfl (fun ls hl => ?_)
                                    refine lv_goto (tgt := 95) hx hb dX10_append_129 (by decide) ?_
                                    refine lv_iload hx hb dX10_append_95 (lv_at hl 0 rfl) ?_
                                    refine lv_if_lt (tgt := 132) hx hb dX10_append_97 (by decide) (fun h => absurd h (by decide)) (fun _ => ?_)
                                    refine lv_aload_n hx hb dX10_append_100 rfl (lv_at hl 2 rfl) ?_
                                    refine g_get hx hb hg hown hK hP 0 rfl rfl inX10 0 (by decide) q606 rfl dX10_append_101 ?_
                                    refine lv_aload_n hx hb dX10_append_104 rfl (lv_at hl 2 rfl) ?_
                                    refine g_get hx hb hg hown hK hP 0 rfl rfl inX10 1 (by decide) q607 rfl dX10_append_105 ?_
                                    refine lv_lload_n hx hb dX10_append_108 rfl (lv_at hl 3 rfl) ?_
                                    refine lv_iload hx hb dX10_append_109 (lv_at hl 0 rfl) ?_
                                    refine g_Si (n := 2) (As := [.long v, .int 5]) (rest := [.int 1, .ref (ad 0)]) (wr := [(h0, .inr (10, [.ref (ad 0), .int 1, .int (-1), .int (-1), .ref (ad 1), .ref (ad 2), .ref (ad 3), .ref (ad 4), .ref (ad 5), .ref (ad 6), .ref (ad 7), .ref (ad 8)])), (ad 0, .inl (dA 2, 480, .inl f230))]) hx hb hml hg hown hK hP hD hS hA (c_X10_byteOf l D dA v 5 _) [] [0, 1] rfl (by decide) rfl (by decide) (by decide) q749 q149 q747 q748 (by decide +kernel) ⟨(Nat.le_of_ble_eq_true rfl), (Nat.le_of_ble_eq_true rfl)⟩ rfl hl.1 rfl (Nat.le_of_ble_eq_true rfl) dX10_append_111 ⟨(Nat.le_of_ble_eq_true rfl), (Nat.le_of_ble_eq_true rfl)⟩ (fun r232 u231 H locs w233 hP hD hS => ?_)
                                    refine W.widen (k := 0) (n := 0) (Nat.le_of_ble_eq_true rfl) (Nat.le_of_ble_eq_true rfl) ?_
                                    have hP : va_P D vwC [(h0, .inr (10, [.ref (ad 0), .int 1, .int (-1), .int (-1), .ref (ad 1), .ref (ad 2), .ref (ad 3), .ref (ad 4), .ref (ad 5), .ref (ad 6), .ref (ad 7), .ref (ad 8)])), (ad 0, .inl (dA 2, 480, .inl f230))] H := hP
                                    have hD : va_D A [(h0, .inr (10, [.ref (ad 0), .int 1, .int (-1), .int (-1), .ref (ad 1), .ref (ad 2), .ref (ad 3), .ref (ad 4), .ref (ad 5), .ref (ad 6), .ref (ad 7), .ref (ad 8)])), (ad 0, .inl (dA 2, 480, .inl f230))] := hD
                                    obtain rfl : r232 = bC v 5 := w233
                                    refine lv_i2c (v := (((bC v 5).toUInt32 % 65536).toInt32)) hx hb dX10_append_114 rfl ?_
                                    refine va_cast hx hb hK hP hD hS 1 2 rfl rfl (by unfold vp_in; decide) dX10_append_115 (fun H locs hP hD hS => ?_)
                                    have hP : va_P D vwC [(h0, .inr (10, [.ref (ad 0), .int 1, .int (-1), .int (-1), .ref (ad 1), .ref (ad 2), .ref (ad 3), .ref (ad 4), .ref (ad 5), .ref (ad 6), .ref (ad 7), .ref (ad 8)])), (ad 0, .inl (dA 2, 480, .inl (upd f230 (1 : Int32).toNatClampNeg (vp_nar .char (((bC v 5).toUInt32 % 65536).toInt32)))))] H := hP
                                    have hD : va_D A [(h0, .inr (10, [.ref (ad 0), .int 1, .int (-1), .int (-1), .ref (ad 1), .ref (ad 2), .ref (ad 3), .ref (ad 4), .ref (ad 5), .ref (ad 6), .ref (ad 7), .ref (ad 8)])), (ad 0, .inl (dA 2, 480, .inl (upd f230 (1 : Int32).toNatClampNeg (vp_nar .char (((bC v 5).toUInt32 % 65536).toInt32)))))] := hD
                                    generalize (upd f230 (1 : Int32).toNatClampNeg (vp_nar .char (((bC v 5).toUInt32 % 65536).toInt32))) = f234 at hP hD
                                    refine lv_aload_n hx hb dX10_append_116 rfl (lv_at hl 2 rfl) ?_
                                    refine lv_dup hx hb dX10_append_117 rfl ?_
                                    refine g_get hx hb hg hown hK hP 0 rfl rfl inX10 1 (by decide) q607 rfl dX10_append_118 ?_
                                    refine lv_iconst (v := 1) hx hb dX10_append_121 (by decide) ?_
                                    refine lv_iadd hx hb dX10_append_122 ?_
                                    refine g_nrm (y := 2) (by decide) ?_
                                    refine g_put (w' := [(h0, .inr (10, [.ref (ad 0), .int 2, .int (-1), .int (-1), .ref (ad 1), .ref (ad 2), .ref (ad 3), .ref (ad 4), .ref (ad 5), .ref (ad 6), .ref (ad 7), .ref (ad 8)])), (ad 0, .inl (dA 2, 480, .inl f234))]) hx hb hg hown hK hP hD hS 0 rfl rfl inX10 tyX10_ok nmX10 1 (by decide) q607 rfl rfl rfl (Nat.le_of_ble_eq_true rfl) rfl dX10_append_123 (fun H locs hP hD hS => ?_)
                                    refine lv_iinc (v := 4) (lv' := [(4, .int 4), (5, .int (bC v 6)), (0, .ref h0), (1, .long v), (3, .int 7)]) hx hb dX10_append_126 hl (k := 0) rfl (by decide) (by decide) rfl (fun ls hl => ?_)
                                    refine lv_goto (tgt := 95) hx hb dX10_append_129 (by decide) ?_
                                    refine lv_iload hx hb dX10_append_95 (lv_at hl 0 rfl) ?_
                                    refine lv_if_lt (tgt := 132) hx hb dX10_append_97 (by decide) (fun h => absurd h (by decide)) (fun _ => ?_)
                                    refine lv_aload_n hx hb dX10_append_100 rfl (lv_at hl 2 rfl) ?_
                                    refine g_get hx hb hg hown hK hP 0 rfl rfl inX10 0 (by decide) q606 rfl dX10_append_101 ?_
                                    refine lv_aload_n hx hb dX10_append_104 rfl (lv_at hl 2 rfl) ?_
                                    refine g_get hx hb hg hown hK hP 0 rfl rfl inX10 1 (by decide) q607 rfl dX10_append_105 ?_
                                    refine lv_lload_n hx hb dX10_append_108 rfl (lv_at hl 3 rfl) ?_
                                    refine lv_iload hx hb dX10_append_109 (lv_at hl 0 rfl) ?_
                                    refine g_Si (n := 2) (As := [.long v, .int 4]) (rest := [.int 2, .ref (ad 0)]) (wr := [(h0, .inr (10, [.ref (ad 0), .int 2, .int (-1), .int (-1), .ref (ad 1), .ref (ad 2), .ref (ad 3), .ref (ad 4), .ref (ad 5), .ref (ad 6), .ref (ad 7), .ref (ad 8)])), (ad 0, .inl (dA 2, 480, .inl f234))]) hx hb hml hg hown hK hP hD hS hA (c_X10_byteOf l D dA v 4 _) [] [0, 1] rfl (by decide) rfl (by decide) (by decide) q749 q149 q747 q748 (by decide +kernel) ⟨(Nat.le_of_ble_eq_true rfl), (Nat.le_of_ble_eq_true rfl)⟩ rfl hl.1 rfl (Nat.le_of_ble_eq_true rfl) dX10_append_111 ⟨(Nat.le_of_ble_eq_true rfl), (Nat.le_of_ble_eq_true rfl)⟩ (fun r236 u235 H locs w237 hP hD hS => ?_)
                                    refine W.widen (k := 0) (n := 0) (Nat.le_of_ble_eq_true rfl) (Nat.le_of_ble_eq_true rfl) ?_
                                    have hP : va_P D vwC [(h0, .inr (10, [.ref (ad 0), .int 2, .int (-1), .int (-1), .ref (ad 1), .ref (ad 2), .ref (ad 3), .ref (ad 4), .ref (ad 5), .ref (ad 6), .ref (ad 7), .ref (ad 8)])), (ad 0, .inl (dA 2, 480, .inl f234))] H := hP
                                    have hD : va_D A [(h0, .inr (10, [.ref (ad 0), .int 2, .int (-1), .int (-1), .ref (ad 1), .ref (ad 2), .ref (ad 3), .ref (ad 4), .ref (ad 5), .ref (ad 6), .ref (ad 7), .ref (ad 8)])), (ad 0, .inl (dA 2, 480, .inl f234))] := hD
                                    obtain rfl : r236 = bC v 4 := w237
                                    refine lv_i2c (v := (((bC v 4).toUInt32 % 65536).toInt32)) hx hb dX10_append_114 rfl ?_
                                    refine va_cast hx hb hK hP hD hS 1 2 rfl rfl (by unfold vp_in; decide) dX10_append_115 (fun H locs hP hD hS => ?_)
                                    have hP : va_P D vwC [(h0, .inr (10, [.ref (ad 0), .int 2, .int (-1), .int (-1), .ref (ad 1), .ref (ad 2), .ref (ad 3), .ref (ad 4), .ref (ad 5), .ref (ad 6), .ref (ad 7), .ref (ad 8)])), (ad 0, .inl (dA 2, 480, .inl (upd f234 (2 : Int32).toNatClampNeg (vp_nar .char (((bC v 4).toUInt32 % 65536).toInt32)))))] H := hP
                                    have hD : va_D A [(h0, .inr (10, [.ref (ad 0), .int 2, .int (-1), .int (-1), .ref (ad 1), .ref (ad 2), .ref (ad 3), .ref (ad 4), .ref (ad 5), .ref (ad 6), .ref (ad 7), .ref (ad 8)])), (ad 0, .inl (dA 2, 480, .inl (upd f234 (2 : Int32).toNatClampNeg (vp_nar .char (((bC v 4).toUInt32 % 65536).toInt32)))))] := hD
                                    generalize (upd f234 (2 : Int32).toNatClampNeg (vp_nar .char (((bC v 4).toUInt32 % 65536).toInt32))) = f238 at hP hD
                                    refine lv_aload_n hx hb dX10_append_116 rfl (lv_at hl 2 rfl) ?_
                                    refine lv_dup hx hb dX10_append_117 rfl ?_
                                    refine g_get hx hb hg hown hK hP 0 rfl rfl inX10 1 (by decide) q607 rfl dX10_append_118 ?_
                                    refine lv_iconst (v := 1) hx hb dX10_append_121 (by decide) ?_
                                    refine lv_iadd hx hb dX10_append_122 ?_
                                    refine g_nrm (y := 3) (by decide) ?_
                                    refine g_put (w' := [(h0, .inr (10, [.ref (ad 0), .int 3, .int (-1), .int (-1), .ref (ad 1), .ref (ad 2), .ref (ad 3), .ref (ad 4), .ref (ad 5), .ref (ad 6), .ref (ad 7), .ref (ad 8)])), (ad 0, .inl (dA 2, 480, .inl f238))]) hx hb hg hown hK hP hD hS 0 rfl rfl inX10 tyX10_ok nmX10 1 (by decide) q607 rfl rfl rfl (Nat.le_of_ble_eq_true rfl) rfl dX10_append_123 (fun H locs hP hD hS => ?_)
                                    refine lv_iinc (v := 3) (lv' := [(4, .int 3), (5, .int (bC v 6)), (0, .ref h0), (1, .long v), (3, .int 7)]) hx hb dX10_append_126 hl (k := 0) rfl (by decide) (by decide) rfl (fun ls hl => ?_)
                                    refine lv_goto (tgt := 95) hx hb dX10_append_129 (by decide) ?_
                                    refine lv_iload hx hb dX10_append_95 (lv_at hl 0 rfl) ?_
                                    refine lv_if_lt (tgt := 132) hx hb dX10_append_97 (by decide) (fun h => absurd h (by decide)) (fun _ => ?_)
                                    refine lv_aload_n hx hb dX10_append_100 rfl (lv_at hl 2 rfl) ?_
                                    refine g_get hx hb hg hown hK hP 0 rfl rfl inX10 0 (by decide) q606 rfl dX10_append_101 ?_
                                    refine lv_aload_n hx hb dX10_append_104 rfl (lv_at hl 2 rfl) ?_
                                    refine g_get hx hb hg hown hK hP 0 rfl rfl inX10 1 (by decide) q607 rfl dX10_append_105 ?_
                                    refine lv_lload_n hx hb dX10_append_108 rfl (lv_at hl 3 rfl) ?_
                                    refine lv_iload hx hb dX10_append_109 (lv_at hl 0 rfl) ?_
                                    refine g_Si (n := 2) (As := [.long v, .int 3]) (rest := [.int 3, .ref (ad 0)]) (wr := [(h0, .inr (10, [.ref (ad 0), .int 3, .int (-1), .int (-1), .ref (ad 1), .ref (ad 2), .ref (ad 3), .ref (ad 4), .ref (ad 5), .ref (ad 6), .ref (ad 7), .ref (ad 8)])), (ad 0, .inl (dA 2, 480, .inl f238))]) hx hb hml hg hown hK hP hD hS hA (c_X10_byteOf l D dA v 3 _) [] [0, 1] rfl (by decide) rfl (by decide) (by decide) q749 q149 q747 q748 (by decide +kernel) ⟨(Nat.le_of_ble_eq_true rfl), (Nat.le_of_ble_eq_true rfl)⟩ rfl hl.1 rfl (Nat.le_of_ble_eq_true rfl) dX10_append_111 ⟨(Nat.le_of_ble_eq_true rfl), (Nat.le_of_ble_eq_true rfl)⟩ (fun r240 u239 H locs w241 hP hD hS => ?_)
                                    refine W.widen (k := 0) (n := 0) (Nat.le_of_ble_eq_true rfl) (Nat.le_of_ble_eq_true rfl) ?_
                                    have hP : va_P D vwC [(h0, .inr (10, [.ref (ad 0), .int 3, .int (-1), .int (-1), .ref (ad 1), .ref (ad 2), .ref (ad 3), .ref (ad 4), .ref (ad 5), .ref (ad 6), .ref (ad 7), .ref (ad 8)])), (ad 0, .inl (dA 2, 480, .inl f238))] H := hP
                                    have hD : va_D A [(h0, .inr (10, [.ref (ad 0), .int 3, .int (-1), .int (-1), .ref (ad 1), .ref (ad 2), .ref (ad 3), .ref (ad 4), .ref (ad 5), .ref (ad 6), .ref (ad 7), .ref (ad 8)])), (ad 0, .inl (dA 2, 480, .inl f238))] := hD
                                    obtain rfl : r240 = bC v 3 := w241
                                    refine lv_i2c (v := (((bC v 3).toUInt32 % 65536).toInt32)) hx hb dX10_append_114 rfl ?_
                                    refine va_cast hx hb hK hP hD hS 1 2 rfl rfl (by unfold vp_in; decide) dX10_append_115 (fun H locs hP hD hS => ?_)
                                    have hP : va_P D vwC [(h0, .inr (10, [.ref (ad 0), .int 3, .int (-1), .int (-1), .ref (ad 1), .ref (ad 2), .ref (ad 3), .ref (ad 4), .ref (ad 5), .ref (ad 6), .ref (ad 7), .ref (ad 8)])), (ad 0, .inl (dA 2, 480, .inl (upd f238 (3 : Int32).toNatClampNeg (vp_nar .char (((bC v 3).toUInt32 % 65536).toInt32)))))] H := hP
                                    have hD : va_D A [(h0, .inr (10, [.ref (ad 0), .int 3, .int (-1), .int (-1), .ref (ad 1), .ref (ad 2), .ref (ad 3), .ref (ad 4), .ref (ad 5), .ref (ad 6), .ref (ad 7), .ref (ad 8)])), (ad 0, .inl (dA 2, 480, .inl (upd f238 (3 : Int32).toNatClampNeg (vp_nar .char (((bC v 3).toUInt32 % 65536).toInt32)))))] := hD
                                    generalize (upd f238 (3 : Int32).toNatClampNeg (vp_nar .char (((bC v 3).toUInt32 % 65536).toInt32))) = f242 at hP hD
                                    refine lv_aload_n hx hb dX10_append_116 rfl (lv_at hl 2 rfl) ?_
                                    refine lv_dup hx hb dX10_append_117 rfl ?_
                                    refine g_get hx hb hg hown hK hP 0 rfl rfl inX10 1 (by decide) q607 rfl dX10_append_118 ?_
                                    refine lv_iconst (v := 1) hx hb dX10_append_121 (by decide) ?_
                                    refine lv_iadd hx hb dX10_append_122 ?_
                                    refine g_nrm (y := 4) (by decide) ?_
                                    refine g_put (w' := [(h0, .inr (10, [.ref (ad 0), .int 4, .int (-1), .int (-1), .ref (ad 1), .ref (ad 2), .ref (ad 3), .ref (ad 4), .ref (ad 5), .ref (ad 6), .ref (ad 7), .ref (ad 8)])), (ad 0, .inl (dA 2, 480, .inl f242))]) hx hb hg hown hK hP hD hS 0 rfl rfl inX10 tyX10_ok nmX10 1 (by decide) q607 rfl rfl rfl (Nat.le_of_ble_eq_true rfl) rfl dX10_append_123 (fun H locs hP hD hS => ?_)
                                    refine lv_iinc (v := 2) (lv' := [(4, .int 2), (5, .int (bC v 6)), (0, .ref h0), (1, .long v), (3, .int 7)]) hx hb dX10_append_126 hl (k := 0) rfl (by decide) (by decide) rfl (fun ls hl => ?_)
                                    refine lv_goto (tgt := 95) hx hb dX10_append_129 (by decide) ?_
                                    refine lv_iload hx hb dX10_append_95 (lv_at hl 0 rfl) ?_
                                    refine lv_if_lt (tgt := 132) hx hb dX10_append_97 (by decide) (fun h => absurd h (by decide)) (fun _ => ?_)
                                    refine lv_aload_n hx hb dX10_append_100 rfl (lv_at hl 2 rfl) ?_
                                    refine g_get hx hb hg hown hK hP 0 rfl rfl inX10 0 (by decide) q606 rfl dX10_append_101 ?_
                                    refine lv_aload_n hx hb dX10_append_104 rfl (lv_at hl 2 rfl) ?_
                                    refine g_get hx hb hg hown hK hP 0 rfl rfl inX10 1 (by decide) q607 rfl dX10_append_105 ?_
                                    refine lv_lload_n hx hb dX10_append_108 rfl (lv_at hl 3 rfl) ?_
                                    refine lv_iload hx hb dX10_append_109 (lv_at hl 0 rfl) ?_
                                    refine g_Si (n := 2) (As := [.long v, .int 2]) (rest := [.int 4, .ref (ad 0)]) (wr := [(h0, .inr (10, [.ref (ad 0), .int 4, .int (-1), .int (-1), .ref (ad 1), .ref (ad 2), .ref (ad 3), .ref (ad 4), .ref (ad 5), .ref (ad 6), .ref (ad 7), .ref (ad 8)])), (ad 0, .inl (dA 2, 480, .inl f242))]) hx hb hml hg hown hK hP hD hS hA (c_X10_byteOf l D dA v 2 _) [] [0, 1] rfl (by decide) rfl (by decide) (by decide) q749 q149 q747 q748 (by decide +kernel) ⟨(Nat.le_of_ble_eq_true rfl), (Nat.le_of_ble_eq_true rfl)⟩ rfl hl.1 rfl (Nat.le_of_ble_eq_true rfl) dX10_append_111 ⟨(Nat.le_of_ble_eq_true rfl), (Nat.le_of_ble_eq_true rfl)⟩ (fun r244 u243 H locs w245 hP hD hS => ?_)
                                    refine W.widen (k := 0) (n := 0) (Nat.le_of_ble_eq_true rfl) (Nat.le_of_ble_eq_true rfl) ?_
                                    have hP : va_P D vwC [(h0, .inr (10, [.ref (ad 0), .int 4, .int (-1), .int (-1), .ref (ad 1), .ref (ad 2), .ref (ad 3), .ref (ad 4), .ref (ad 5), .ref (ad 6), .ref (ad 7), .ref (ad 8)])), (ad 0, .inl (dA 2, 480, .inl f242))] H := hP
                                    have hD : va_D A [(h0, .inr (10, [.ref (ad 0), .int 4, .int (-1), .int (-1), .ref (ad 1), .ref (ad 2), .ref (ad 3), .ref (ad 4), .ref (ad 5), .ref (ad 6), .ref (ad 7), .ref (ad 8)])), (ad 0, .inl (dA 2, 480, .inl f242))] := hD
                                    obtain rfl : r244 = bC v 2 := w245
                                    refine lv_i2c (v := (((bC v 2).toUInt32 % 65536).toInt32)) hx hb dX10_append_114 rfl ?_
                                    refine va_cast hx hb hK hP hD hS 1 2 rfl rfl (by unfold vp_in; decide) dX10_append_115 (fun H locs hP hD hS => ?_)
                                    have hP : va_P D vwC [(h0, .inr (10, [.ref (ad 0), .int 4, .int (-1), .int (-1), .ref (ad 1), .ref (ad 2), .ref (ad 3), .ref (ad 4), .ref (ad 5), .ref (ad 6), .ref (ad 7), .ref (ad 8)])), (ad 0, .inl (dA 2, 480, .inl (upd f242 (4 : Int32).toNatClampNeg (vp_nar .char (((bC v 2).toUInt32 % 65536).toInt32)))))] H := hP
                                    have hD : va_D A [(h0, .inr (10, [.ref (ad 0), .int 4, .int (-1), .int (-1), .ref (ad 1), .ref (ad 2), .ref (ad 3), .ref (ad 4), .ref (ad 5), .ref (ad 6), .ref (ad 7), .ref (ad 8)])), (ad 0, .inl (dA 2, 480, .inl (upd f242 (4 : Int32).toNatClampNeg (vp_nar .char (((bC v 2).toUInt32 % 65536).toInt32)))))] := hD
                                    generalize (upd f242 (4 : Int32).toNatClampNeg (vp_nar .char (((bC v 2).toUInt32 % 65536).toInt32))) = f246 at hP hD
                                    refine lv_aload_n hx hb dX10_append_116 rfl (lv_at hl 2 rfl) ?_
                                    refine lv_dup hx hb dX10_append_117 rfl ?_
                                    refine g_get hx hb hg hown hK hP 0 rfl rfl inX10 1 (by decide) q607 rfl dX10_append_118 ?_
                                    refine lv_iconst (v := 1) hx hb dX10_append_121 (by decide) ?_
                                    refine lv_iadd hx hb dX10_append_122 ?_
                                    refine g_nrm (y := 5) (by decide) ?_
                                    refine g_put (w' := [(h0, .inr (10, [.ref (ad 0), .int 5, .int (-1), .int (-1), .ref (ad 1), .ref (ad 2), .ref (ad 3), .ref (ad 4), .ref (ad 5), .ref (ad 6), .ref (ad 7), .ref (ad 8)])), (ad 0, .inl (dA 2, 480, .inl f246))]) hx hb hg hown hK hP hD hS 0 rfl rfl inX10 tyX10_ok nmX10 1 (by decide) q607 rfl rfl rfl (Nat.le_of_ble_eq_true rfl) rfl dX10_append_123 (fun H locs hP hD hS => ?_)
                                    refine lv_iinc (v := 1) (lv' := [(4, .int 1), (5, .int (bC v 6)), (0, .ref h0), (1, .long v), (3, .int 7)]) hx hb dX10_append_126 hl (k := 0) rfl (by decide) (by decide) rfl (fun ls hl => ?_)
                                    refine lv_goto (tgt := 95) hx hb dX10_append_129 (by decide) ?_
                                    refine lv_iload hx hb dX10_append_95 (lv_at hl 0 rfl) ?_
                                    refine lv_if_lt (tgt := 132) hx hb dX10_append_97 (by decide) (fun h => absurd h (by decide)) (fun _ => ?_)
                                    refine lv_aload_n hx hb dX10_append_100 rfl (lv_at hl 2 rfl) ?_
                                    refine g_get hx hb hg hown hK hP 0 rfl rfl inX10 0 (by decide) q606 rfl dX10_append_101 ?_
                                    refine lv_aload_n hx hb dX10_append_104 rfl (lv_at hl 2 rfl) ?_
                                    refine g_get hx hb hg hown hK hP 0 rfl rfl inX10 1 (by decide) q607 rfl dX10_append_105 ?_
                                    refine lv_lload_n hx hb dX10_append_108 rfl (lv_at hl 3 rfl) ?_
                                    refine lv_iload hx hb dX10_append_109 (lv_at hl 0 rfl) ?_
                                    refine g_Si (n := 2) (As := [.long v, .int 1]) (rest := [.int 5, .ref (ad 0)]) (wr := [(h0, .inr (10, [.ref (ad 0), .int 5, .int (-1), .int (-1), .ref (ad 1), .ref (ad 2), .ref (ad 3), .ref (ad 4), .ref (ad 5), .ref (ad 6), .ref (ad 7), .ref (ad 8)])), (ad 0, .inl (dA 2, 480, .inl f246))]) hx hb hml hg hown hK hP hD hS hA (c_X10_byteOf l D dA v 1 _) [] [0, 1] rfl (by decide) rfl (by decide) (by decide) q749 q149 q747 q748 (by decide +kernel) ⟨(Nat.le_of_ble_eq_true rfl), (Nat.le_of_ble_eq_true rfl)⟩ rfl hl.1 rfl (Nat.le_of_ble_eq_true rfl) dX10_append_111 ⟨(Nat.le_of_ble_eq_true rfl), (Nat.le_of_ble_eq_true rfl)⟩ (fun r248 u247 H locs w249 hP hD hS => ?_)
                                    refine W.widen (k := 0) (n := 0) (Nat.le_of_ble_eq_true rfl) (Nat.le_of_ble_eq_true rfl) ?_
                                    have hP : va_P D vwC [(h0, .inr (10, [.ref (ad 0), .int 5, .int (-1), .int (-1), .ref (ad 1), .ref (ad 2), .ref (ad 3), .ref (ad 4), .ref (ad 5), .ref (ad 6), .ref (ad 7), .ref (ad 8)])), (ad 0, .inl (dA 2, 480, .inl f246))] H := hP
                                    have hD : va_D A [(h0, .inr (10, [.ref (ad 0), .int 5, .int (-1), .int (-1), .ref (ad 1), .ref (ad 2), .ref (ad 3), .ref (ad 4), .ref (ad 5), .ref (ad 6), .ref (ad 7), .ref (ad 8)])), (ad 0, .inl (dA 2, 480, .inl f246))] := hD
                                    obtain rfl : r248 = bC v 1 := w249
                                    refine lv_i2c (v := (((bC v 1).toUInt32 % 65536).toInt32)) hx hb dX10_append_114 rfl ?_
                                    refine va_cast hx hb hK hP hD hS 1 2 rfl rfl (by unfold vp_in; decide) dX10_append_115 (fun H locs hP hD hS => ?_)
                                    have hP : va_P D vwC [(h0, .inr (10, [.ref (ad 0), .int 5, .int (-1), .int (-1), .ref (ad 1), .ref (ad 2), .ref (ad 3), .ref (ad 4), .ref (ad 5), .ref (ad 6), .ref (ad 7), .ref (ad 8)])), (ad 0, .inl (dA 2, 480, .inl (upd f246 (5 : Int32).toNatClampNeg (vp_nar .char (((bC v 1).toUInt32 % 65536).toInt32)))))] H := hP
                                    have hD : va_D A [(h0, .inr (10, [.ref (ad 0), .int 5, .int (-1), .int (-1), .ref (ad 1), .ref (ad 2), .ref (ad 3), .ref (ad 4), .ref (ad 5), .ref (ad 6), .ref (ad 7), .ref (ad 8)])), (ad 0, .inl (dA 2, 480, .inl (upd f246 (5 : Int32).toNatClampNeg (vp_nar .char (((bC v 1).toUInt32 % 65536).toInt32)))))] := hD
                                    generalize (upd f246 (5 : Int32).toNatClampNeg (vp_nar .char (((bC v 1).toUInt32 % 65536).toInt32))) = f250 at hP hD
                                    refine lv_aload_n hx hb dX10_append_116 rfl (lv_at hl 2 rfl) ?_
                                    refine lv_dup hx hb dX10_append_117 rfl ?_
                                    refine g_get hx hb hg hown hK hP 0 rfl rfl inX10 1 (by decide) q607 rfl dX10_append_118 ?_
                                    refine lv_iconst (v := 1) hx hb dX10_append_121 (by decide) ?_
                                    refine lv_iadd hx hb dX10_append_122 ?_
                                    refine g_nrm (y := 6) (by decide) ?_
                                    refine g_put (w' := [(h0, .inr (10, [.ref (ad 0), .int 6, .int (-1), .int (-1), .ref (ad 1), .ref (ad 2), .ref (ad 3), .ref (ad 4), .ref (ad 5), .ref (ad 6), .ref (ad 7), .ref (ad 8)])), (ad 0, .inl (dA 2, 480, .inl f250))]) hx hb hg hown hK hP hD hS 0 rfl rfl inX10 tyX10_ok nmX10 1 (by decide) q607 rfl rfl rfl (Nat.le_of_ble_eq_true rfl) rfl dX10_append_123 (fun H locs hP hD hS => ?_)
                                    refine lv_iinc (v := 0) (lv' := [(4, .int 0), (5, .int (bC v 6)), (0, .ref h0), (1, .long v), (3, .int 7)]) hx hb dX10_append_126 hl (k := 0) rfl (by decide) (by decide) rfl (fun ls hl => ?_)
                                    refine lv_goto (tgt := 95) hx hb dX10_append_129 (by decide) ?_
                                    refine lv_iload hx hb dX10_append_95 (lv_at hl 0 rfl) ?_
                                    refine lv_if_lt (tgt := 132) hx hb dX10_append_97 (by decide) (fun h => absurd h (by decide)) (fun _ => ?_)
                                    refine lv_aload_n hx hb dX10_append_100 rfl (lv_at hl 2 rfl) ?_
                                    refine g_get hx hb hg hown hK hP 0 rfl rfl inX10 0 (by decide) q606 rfl dX10_append_101 ?_
                                    refine lv_aload_n hx hb dX10_append_104 rfl (lv_at hl 2 rfl) ?_
                                    refine g_get hx hb hg hown hK hP 0 rfl rfl inX10 1 (by decide) q607 rfl dX10_append_105 ?_
                                    refine lv_lload_n hx hb dX10_append_108 rfl (lv_at hl 3 rfl) ?_
                                    refine lv_iload hx hb dX10_append_109 (lv_at hl 0 rfl) ?_
                                    refine g_Si (n := 2) (As := [.long v, .int 0]) (rest := [.int 6, .ref (ad 0)]) (wr := [(h0, .inr (10, [.ref (ad 0), .int 6, .int (-1), .int (-1), .ref (ad 1), .ref (ad 2), .ref (ad 3), .ref (ad 4), .ref (ad 5), .ref (ad 6), .ref (ad 7), .ref (ad 8)])), (ad 0, .inl (dA 2, 480, .inl f250))]) hx hb hml hg hown hK hP hD hS hA (c_X10_byteOf l D dA v 0 _) [] [0, 1] rfl (by decide) rfl (by decide) (by decide) q749 q149 q747 q748 (by decide +kernel) ⟨(Nat.le_of_ble_eq_true rfl), (Nat.le_of_ble_eq_true rfl)⟩ rfl hl.1 rfl (Nat.le_of_ble_eq_true rfl) dX10_append_111 ⟨(Nat.le_of_ble_eq_true rfl), (Nat.le_of_ble_eq_true rfl)⟩ (fun r252 u251 H locs w253 hP hD hS => ?_)
                                    refine W.widen (k := 0) (n := 0) (Nat.le_of_ble_eq_true rfl) (Nat.le_of_ble_eq_true rfl) ?_
                                    have hP : va_P D vwC [(h0, .inr (10, [.ref (ad 0), .int 6, .int (-1), .int (-1), .ref (ad 1), .ref (ad 2), .ref (ad 3), .ref (ad 4), .ref (ad 5), .ref (ad 6), .ref (ad 7), .ref (ad 8)])), (ad 0, .inl (dA 2, 480, .inl f250))] H := hP
                                    have hD : va_D A [(h0, .inr (10, [.ref (ad 0), .int 6, .int (-1), .int (-1), .ref (ad 1), .ref (ad 2), .ref (ad 3), .ref (ad 4), .ref (ad 5), .ref (ad 6), .ref (ad 7), .ref (ad 8)])), (ad 0, .inl (dA 2, 480, .inl f250))] := hD
                                    obtain rfl : r252 = bC v 0 := w253
                                    refine lv_i2c (v := (((bC v 0).toUInt32 % 65536).toInt32)) hx hb dX10_append_114 rfl ?_
                                    refine va_cast hx hb hK hP hD hS 1 2 rfl rfl (by unfold vp_in; decide) dX10_append_115 (fun H locs hP hD hS => ?_)
                                    have hP : va_P D vwC [(h0, .inr (10, [.ref (ad 0), .int 6, .int (-1), .int (-1), .ref (ad 1), .ref (ad 2), .ref (ad 3), .ref (ad 4), .ref (ad 5), .ref (ad 6), .ref (ad 7), .ref (ad 8)])), (ad 0, .inl (dA 2, 480, .inl (upd f250 (6 : Int32).toNatClampNeg (vp_nar .char (((bC v 0).toUInt32 % 65536).toInt32)))))] H := hP
                                    have hD : va_D A [(h0, .inr (10, [.ref (ad 0), .int 6, .int (-1), .int (-1), .ref (ad 1), .ref (ad 2), .ref (ad 3), .ref (ad 4), .ref (ad 5), .ref (ad 6), .ref (ad 7), .ref (ad 8)])), (ad 0, .inl (dA 2, 480, .inl (upd f250 (6 : Int32).toNatClampNeg (vp_nar .char (((bC v 0).toUInt32 % 65536).toInt32)))))] := hD
                                    generalize (upd f250 (6 : Int32).toNatClampNeg (vp_nar .char (((bC v 0).toUInt32 % 65536).toInt32))) = f254 at hP hD
                                    refine lv_aload_n hx hb dX10_append_116 rfl (lv_at hl 2 rfl) ?_
                                    refine lv_dup hx hb dX10_append_117 rfl ?_
                                    refine g_get hx hb hg hown hK hP 0 rfl rfl inX10 1 (by decide) q607 rfl dX10_append_118 ?_
                                    refine lv_iconst (v := 1) hx hb dX10_append_121 (by decide) ?_
                                    refine lv_iadd hx hb dX10_append_122 ?_
                                    refine g_nrm (y := 7) (by decide) ?_
                                    refine g_put (w' := [(h0, .inr (10, [.ref (ad 0), .int 7, .int (-1), .int (-1), .ref (ad 1), .ref (ad 2), .ref (ad 3), .ref (ad 4), .ref (ad 5), .ref (ad 6), .ref (ad 7), .ref (ad 8)])), (ad 0, .inl (dA 2, 480, .inl f254))]) hx hb hg hown hK hP hD hS 0 rfl rfl inX10 tyX10_ok nmX10 1 (by decide) q607 rfl rfl rfl (Nat.le_of_ble_eq_true rfl) rfl dX10_append_123 (fun H locs hP hD hS => ?_)
                                    refine lv_iinc (v := (-1)) (lv' := [(4, .int (-1)), (5, .int (bC v 6)), (0, .ref h0), (1, .long v), (3, .int 7)]) hx hb dX10_append_126 hl (k := 0) rfl (by decide) (by decide) rfl (fun ls hl => ?_)
                                    refine lv_goto (tgt := 95) hx hb dX10_append_129 (by decide) ?_
                                    refine lv_iload hx hb dX10_append_95 (lv_at hl 0 rfl) ?_
                                    refine lv_if_lt (tgt := 132) hx hb dX10_append_97 (by decide) (fun _ => ?_) (fun h => absurd (by decide) h)
                                    refine lv_aload_n hx hb dX10_append_132 rfl (lv_at hl 2 rfl) ?_
                                    refine g_get hx hb hg hown hK hP 0 rfl rfl inX10 1 (by decide) q607 rfl dX10_append_133 ?_
                                    exact vx_ret (g_iret hx hb hr rfl hlocks hK () (hP.sub [] rfl) (hD.sub [] rfl rfl) hS ⟨rfl, by unfold gIn; decide, by rw [apI_7]; exact ⟨⟨k195, k196⟩, ⟨k200, k201⟩, ⟨k205, k206⟩, ⟨k210, k211⟩, ⟨k215, k216⟩, ⟨k220, k221⟩, ⟨k225, k226⟩, trivial⟩⟩ (Nat.le_of_ble_eq_true rfl) (Nat.le_of_ble_eq_true rfl) dX10_append_136)
                                  · exact g_thr (cls := xIAE) (is := 101) (text := "a byte is not 32 .. 126") hx hb hg htr hown (by decide) q731 q167 (by decide +kernel) atIAE (by decide +kernel) hZ hS hml hl.1 hnt hlocks dX10_append_52 dX10_append_55 dX10_append_56 dX10_append_58 dX10_append_61 (Nat.le_of_ble_eq_true rfl) (Nat.le_of_ble_eq_true rfl) (Nat.le_of_ble_eq_true rfl) (Nat.le_of_ble_eq_true rfl) (Nat.le_of_ble_eq_true rfl) (Nat.le_of_ble_eq_true rfl) ⟨rfl, (fun h => by have h := h.2; rw [apI_7] at h; exact k226 h.2.2.2.2.2.2.1.2)⟩
                              · exact g_thr (cls := xIAE) (is := 101) (text := "a byte is not 32 .. 126") hx hb hg htr hown (by decide) q731 q167 (by decide +kernel) atIAE (by decide +kernel) hZ hS hml hl.1 hnt hlocks dX10_append_52 dX10_append_55 dX10_append_56 dX10_append_58 dX10_append_61 (Nat.le_of_ble_eq_true rfl) (Nat.le_of_ble_eq_true rfl) (Nat.le_of_ble_eq_true rfl) (Nat.le_of_ble_eq_true rfl) (Nat.le_of_ble_eq_true rfl) (Nat.le_of_ble_eq_true rfl) ⟨rfl, (fun h => by have h := h.2; rw [apI_7] at h; exact k221 h.2.2.2.2.2.1.2)⟩
                          · exact g_thr (cls := xIAE) (is := 101) (text := "a byte is not 32 .. 126") hx hb hg htr hown (by decide) q731 q167 (by decide +kernel) atIAE (by decide +kernel) hZ hS hml hl.1 hnt hlocks dX10_append_52 dX10_append_55 dX10_append_56 dX10_append_58 dX10_append_61 (Nat.le_of_ble_eq_true rfl) (Nat.le_of_ble_eq_true rfl) (Nat.le_of_ble_eq_true rfl) (Nat.le_of_ble_eq_true rfl) (Nat.le_of_ble_eq_true rfl) (Nat.le_of_ble_eq_true rfl) ⟨rfl, (fun h => by have h := h.2; rw [apI_7] at h; exact k216 h.2.2.2.2.1.2)⟩
                      · exact g_thr (cls := xIAE) (is := 101) (text := "a byte is not 32 .. 126") hx hb hg htr hown (by decide) q731 q167 (by decide +kernel) atIAE (by decide +kernel) hZ hS hml hl.1 hnt hlocks dX10_append_52 dX10_append_55 dX10_append_56 dX10_append_58 dX10_append_61 (Nat.le_of_ble_eq_true rfl) (Nat.le_of_ble_eq_true rfl) (Nat.le_of_ble_eq_true rfl) (Nat.le_of_ble_eq_true rfl) (Nat.le_of_ble_eq_true rfl) (Nat.le_of_ble_eq_true rfl) ⟨rfl, (fun h => by have h := h.2; rw [apI_7] at h; exact k211 h.2.2.2.1.2)⟩
                  · exact g_thr (cls := xIAE) (is := 101) (text := "a byte is not 32 .. 126") hx hb hg htr hown (by decide) q731 q167 (by decide +kernel) atIAE (by decide +kernel) hZ hS hml hl.1 hnt hlocks dX10_append_52 dX10_append_55 dX10_append_56 dX10_append_58 dX10_append_61 (Nat.le_of_ble_eq_true rfl) (Nat.le_of_ble_eq_true rfl) (Nat.le_of_ble_eq_true rfl) (Nat.le_of_ble_eq_true rfl) (Nat.le_of_ble_eq_true rfl) (Nat.le_of_ble_eq_true rfl) ⟨rfl, (fun h => by have h := h.2; rw [apI_7] at h; exact k206 h.2.2.1.2)⟩
              · exact g_thr (cls := xIAE) (is := 101) (text := "a byte is not 32 .. 126") hx hb hg htr hown (by decide) q731 q167 (by decide +kernel) atIAE (by decide +kernel) hZ hS hml hl.1 hnt hlocks dX10_append_52 dX10_append_55 dX10_append_56 dX10_append_58 dX10_append_61 (Nat.le_of_ble_eq_true rfl) (Nat.le_of_ble_eq_true rfl) (Nat.le_of_ble_eq_true rfl) (Nat.le_of_ble_eq_true rfl) (Nat.le_of_ble_eq_true rfl) (Nat.le_of_ble_eq_true rfl) ⟨rfl, (fun h => by have h := h.2; rw [apI_7] at h; exact k201 h.2.1.2)⟩
          · exact g_thr (cls := xIAE) (is := 101) (text := "a byte is not 32 .. 126") hx hb hg htr hown (by decide) q731 q167 (by decide +kernel) atIAE (by decide +kernel) hZ hS hml hl.1 hnt hlocks dX10_append_52 dX10_append_55 dX10_append_56 dX10_append_58 dX10_append_61 (Nat.le_of_ble_eq_true rfl) (Nat.le_of_ble_eq_true rfl) (Nat.le_of_ble_eq_true rfl) (Nat.le_of_ble_eq_true rfl) (Nat.le_of_ble_eq_true rfl) (Nat.le_of_ble_eq_true rfl) ⟨rfl, (fun h => by have h := h.2; rw [apI_7] at h; exact k196 h.1.2)⟩
      · refine lv_iconst (v := 0) hx hb dX10_append_21 (by decide) ?_
        refine lv_istore (lv' := [(4, .int 0), (0, .ref h0), (1, .long v), (3, .int 8)]) hx hb dX10_append_22 hl (by decide) rfl (fun ls hl => ?_)
        refine lv_iload hx hb dX10_append_24 (lv_at hl 0 rfl) ?_
        refine lv_iload_n hx hb dX10_append_26 rfl (lv_at hl 3 rfl) ?_
        refine lv_icmp_ge (tgt := 68) hx hb dX10_append_27 (by decide) (fun h => absurd h (by decide)) (fun _ => ?_)
        refine lv_lload_n hx hb dX10_append_30 rfl (lv_at hl 2 rfl) ?_
        refine lv_iload hx hb dX10_append_31 (lv_at hl 0 rfl) ?_
        refine g_Si (n := 2) (As := [.long v, .int 0]) (rest := []) (wr := [(h0, .inr (10, [.ref (ad 0), .int 0, .int (-1), .int (-1), .ref (ad 1), .ref (ad 2), .ref (ad 3), .ref (ad 4), .ref (ad 5), .ref (ad 6), .ref (ad 7), .ref (ad 8)])), (ad 0, .inl (dA 2, 480, .inl (fun _ => 0)))]) hx hb hml hg hown hK hP hD hS hA (c_X10_byteOf l D dA v 0 _) [] [0, 1] rfl (by decide) rfl (by decide) (by decide) q749 q149 q747 q748 (by decide +kernel) ⟨(Nat.le_of_ble_eq_true rfl), (Nat.le_of_ble_eq_true rfl)⟩ rfl hl.1 rfl (Nat.le_of_ble_eq_true rfl) dX10_append_33 ⟨(Nat.le_of_ble_eq_true rfl), (Nat.le_of_ble_eq_true rfl)⟩ (fun r256 u255 H locs w257 hP hD hS => ?_)
        refine W.widen (k := 0) (n := 0) (Nat.le_of_ble_eq_true rfl) (Nat.le_of_ble_eq_true rfl) ?_
        have hP : va_P D vwC [(h0, .inr (10, [.ref (ad 0), .int 0, .int (-1), .int (-1), .ref (ad 1), .ref (ad 2), .ref (ad 3), .ref (ad 4), .ref (ad 5), .ref (ad 6), .ref (ad 7), .ref (ad 8)])), (ad 0, .inl (dA 2, 480, .inl (fun _ => 0)))] H := hP
        have hD : va_D A [(h0, .inr (10, [.ref (ad 0), .int 0, .int (-1), .int (-1), .ref (ad 1), .ref (ad 2), .ref (ad 3), .ref (ad 4), .ref (ad 5), .ref (ad 6), .ref (ad 7), .ref (ad 8)])), (ad 0, .inl (dA 2, 480, .inl (fun _ => 0)))] := hD
        obtain rfl : r256 = bC v 0 := w257
        refine lv_istore (lv' := [(5, .int (bC v 0)), (4, .int 0), (0, .ref h0), (1, .long v), (3, .int 8)]) hx hb dX10_append_36 hl (by decide) rfl (fun ls hl => ?_)
        refine lv_iload hx hb dX10_append_38 (lv_at hl 0 rfl) ?_
        refine lv_bipush (v := 32) hx hb dX10_append_40 (by decide) ?_
        refine lv_icmp_lt (tgt := 52) hx hb dX10_append_42 (by decide) (fun k258 => ?_) (fun k258 => ?_)
        · exact g_thr (cls := xIAE) (is := 101) (text := "a byte is not 32 .. 126") hx hb hg htr hown (by decide) q731 q167 (by decide +kernel) atIAE (by decide +kernel) hZ hS hml hl.1 hnt hlocks dX10_append_52 dX10_append_55 dX10_append_56 dX10_append_58 dX10_append_61 (Nat.le_of_ble_eq_true rfl) (Nat.le_of_ble_eq_true rfl) (Nat.le_of_ble_eq_true rfl) (Nat.le_of_ble_eq_true rfl) (Nat.le_of_ble_eq_true rfl) (Nat.le_of_ble_eq_true rfl) ⟨rfl, (fun h => by have h := h.2; rw [apI_8] at h; exact h.1.1 k258)⟩
        · refine lv_iload hx hb dX10_append_45 (lv_at hl 0 rfl) ?_
          refine lv_bipush (v := 126) hx hb dX10_append_47 (by decide) ?_
          refine lv_icmp_le (tgt := 62) hx hb dX10_append_49 (by decide) (fun k259 => ?_) (fun k259 => ?_)
          · refine lv_iinc (v := 1) (lv' := [(4, .int 1), (5, .int (bC v 0)), (0, .ref h0), (1, .long v), (3, .int 8)]) hx hb dX10_append_62 hl (k := 1) rfl (by decide) (by decide) rfl (fun ls hl => ?_)
            refine lv_goto (tgt := 24) hx hb dX10_append_65 (by decide) ?_
            refine lv_iload hx hb dX10_append_24 (lv_at hl 0 rfl) ?_
            refine lv_iload_n hx hb dX10_append_26 rfl (lv_at hl 4 rfl) ?_
            refine lv_icmp_ge (tgt := 68) hx hb dX10_append_27 (by decide) (fun h => absurd h (by decide)) (fun _ => ?_)
            refine lv_lload_n hx hb dX10_append_30 rfl (lv_at hl 3 rfl) ?_
            refine lv_iload hx hb dX10_append_31 (lv_at hl 0 rfl) ?_
            refine g_Si (n := 2) (As := [.long v, .int 1]) (rest := []) (wr := [(h0, .inr (10, [.ref (ad 0), .int 0, .int (-1), .int (-1), .ref (ad 1), .ref (ad 2), .ref (ad 3), .ref (ad 4), .ref (ad 5), .ref (ad 6), .ref (ad 7), .ref (ad 8)])), (ad 0, .inl (dA 2, 480, .inl (fun _ => 0)))]) hx hb hml hg hown hK hP hD hS hA (c_X10_byteOf l D dA v 1 _) [] [0, 1] rfl (by decide) rfl (by decide) (by decide) q749 q149 q747 q748 (by decide +kernel) ⟨(Nat.le_of_ble_eq_true rfl), (Nat.le_of_ble_eq_true rfl)⟩ rfl hl.1 rfl (Nat.le_of_ble_eq_true rfl) dX10_append_33 ⟨(Nat.le_of_ble_eq_true rfl), (Nat.le_of_ble_eq_true rfl)⟩ (fun r261 u260 H locs w262 hP hD hS => ?_)
            refine W.widen (k := 0) (n := 0) (Nat.le_of_ble_eq_true rfl) (Nat.le_of_ble_eq_true rfl) ?_
            have hP : va_P D vwC [(h0, .inr (10, [.ref (ad 0), .int 0, .int (-1), .int (-1), .ref (ad 1), .ref (ad 2), .ref (ad 3), .ref (ad 4), .ref (ad 5), .ref (ad 6), .ref (ad 7), .ref (ad 8)])), (ad 0, .inl (dA 2, 480, .inl (fun _ => 0)))] H := hP
            have hD : va_D A [(h0, .inr (10, [.ref (ad 0), .int 0, .int (-1), .int (-1), .ref (ad 1), .ref (ad 2), .ref (ad 3), .ref (ad 4), .ref (ad 5), .ref (ad 6), .ref (ad 7), .ref (ad 8)])), (ad 0, .inl (dA 2, 480, .inl (fun _ => 0)))] := hD
            obtain rfl : r261 = bC v 1 := w262
            refine lv_istore (lv' := [(5, .int (bC v 1)), (4, .int 1), (0, .ref h0), (1, .long v), (3, .int 8)]) hx hb dX10_append_36 hl (by decide) rfl (fun ls hl => ?_)
            refine lv_iload hx hb dX10_append_38 (lv_at hl 0 rfl) ?_
            refine lv_bipush (v := 32) hx hb dX10_append_40 (by decide) ?_
            refine lv_icmp_lt (tgt := 52) hx hb dX10_append_42 (by decide) (fun k263 => ?_) (fun k263 => ?_)
            · exact g_thr (cls := xIAE) (is := 101) (text := "a byte is not 32 .. 126") hx hb hg htr hown (by decide) q731 q167 (by decide +kernel) atIAE (by decide +kernel) hZ hS hml hl.1 hnt hlocks dX10_append_52 dX10_append_55 dX10_append_56 dX10_append_58 dX10_append_61 (Nat.le_of_ble_eq_true rfl) (Nat.le_of_ble_eq_true rfl) (Nat.le_of_ble_eq_true rfl) (Nat.le_of_ble_eq_true rfl) (Nat.le_of_ble_eq_true rfl) (Nat.le_of_ble_eq_true rfl) ⟨rfl, (fun h => by have h := h.2; rw [apI_8] at h; exact h.2.1.1 k263)⟩
            · refine lv_iload hx hb dX10_append_45 (lv_at hl 0 rfl) ?_
              refine lv_bipush (v := 126) hx hb dX10_append_47 (by decide) ?_
              refine lv_icmp_le (tgt := 62) hx hb dX10_append_49 (by decide) (fun k264 => ?_) (fun k264 => ?_)
              · refine lv_iinc (v := 2) (lv' := [(4, .int 2), (5, .int (bC v 1)), (0, .ref h0), (1, .long v), (3, .int 8)]) hx hb dX10_append_62 hl (k := 1) rfl (by decide) (by decide) rfl (fun ls hl => ?_)
                refine lv_goto (tgt := 24) hx hb dX10_append_65 (by decide) ?_
                refine lv_iload hx hb dX10_append_24 (lv_at hl 0 rfl) ?_
                refine lv_iload_n hx hb dX10_append_26 rfl (lv_at hl 4 rfl) ?_
                refine lv_icmp_ge (tgt := 68) hx hb dX10_append_27 (by decide) (fun h => absurd h (by decide)) (fun _ => ?_)
                refine lv_lload_n hx hb dX10_append_30 rfl (lv_at hl 3 rfl) ?_
                refine lv_iload hx hb dX10_append_31 (lv_at hl 0 rfl) ?_
                refine g_Si (n := 2) (As := [.long v, .int 2]) (rest := []) (wr := [(h0, .inr (10, [.ref (ad 0), .int 0, .int (-1), .int (-1), .ref (ad 1), .ref (ad 2), .ref (ad 3), .ref (ad 4), .ref (ad 5), .ref (ad 6), .ref (ad 7), .ref (ad 8)])), (ad 0, .inl (dA 2, 480, .inl (fun _ => 0)))]) hx hb hml hg hown hK hP hD hS hA (c_X10_byteOf l D dA v 2 _) [] [0, 1] rfl (by decide) rfl (by decide) (by decide) q749 q149 q747 q748 (by decide +kernel) ⟨(Nat.le_of_ble_eq_true rfl), (Nat.le_of_ble_eq_true rfl)⟩ rfl hl.1 rfl (Nat.le_of_ble_eq_true rfl) dX10_append_33 ⟨(Nat.le_of_ble_eq_true rfl), (Nat.le_of_ble_eq_true rfl)⟩ (fun r266 u265 H locs w267 hP hD hS => ?_)
                refine W.widen (k := 0) (n := 0) (Nat.le_of_ble_eq_true rfl) (Nat.le_of_ble_eq_true rfl) ?_
                have hP : va_P D vwC [(h0, .inr (10, [.ref (ad 0), .int 0, .int (-1), .int (-1), .ref (ad 1), .ref (ad 2), .ref (ad 3), .ref (ad 4), .ref (ad 5), .ref (ad 6), .ref (ad 7), .ref (ad 8)])), (ad 0, .inl (dA 2, 480, .inl (fun _ => 0)))] H := hP
                have hD : va_D A [(h0, .inr (10, [.ref (ad 0), .int 0, .int (-1), .int (-1), .ref (ad 1), .ref (ad 2), .ref (ad 3), .ref (ad 4), .ref (ad 5), .ref (ad 6), .ref (ad 7), .ref (ad 8)])), (ad 0, .inl (dA 2, 480, .inl (fun _ => 0)))] := hD
                obtain rfl : r266 = bC v 2 := w267
                refine lv_istore (lv' := [(5, .int (bC v 2)), (4, .int 2), (0, .ref h0), (1, .long v), (3, .int 8)]) hx hb dX10_append_36 hl (by decide) rfl (fun ls hl => ?_)
                refine lv_iload hx hb dX10_append_38 (lv_at hl 0 rfl) ?_
                refine lv_bipush (v := 32) hx hb dX10_append_40 (by decide) ?_
                refine lv_icmp_lt (tgt := 52) hx hb dX10_append_42 (by decide) (fun k268 => ?_) (fun k268 => ?_)
                · exact g_thr (cls := xIAE) (is := 101) (text := "a byte is not 32 .. 126") hx hb hg htr hown (by decide) q731 q167 (by decide +kernel) atIAE (by decide +kernel) hZ hS hml hl.1 hnt hlocks dX10_append_52 dX10_append_55 dX10_append_56 dX10_append_58 dX10_append_61 (Nat.le_of_ble_eq_true rfl) (Nat.le_of_ble_eq_true rfl) (Nat.le_of_ble_eq_true rfl) (Nat.le_of_ble_eq_true rfl) (Nat.le_of_ble_eq_true rfl) (Nat.le_of_ble_eq_true rfl) ⟨rfl, (fun h => by have h := h.2; rw [apI_8] at h; exact h.2.2.1.1 k268)⟩
                · refine lv_iload hx hb dX10_append_45 (lv_at hl 0 rfl) ?_
                  refine lv_bipush (v := 126) hx hb dX10_append_47 (by decide) ?_
                  refine lv_icmp_le (tgt := 62) hx hb dX10_append_49 (by decide) (fun k269 => ?_) (fun k269 => ?_)
                  · refine lv_iinc (v := 3) (lv' := [(4, .int 3), (5, .int (bC v 2)), (0, .ref h0), (1, .long v), (3, .int 8)]) hx hb dX10_append_62 hl (k := 1) rfl (by decide) (by decide) rfl (fun ls hl => ?_)
                    refine lv_goto (tgt := 24) hx hb dX10_append_65 (by decide) ?_
                    refine lv_iload hx hb dX10_append_24 (lv_at hl 0 rfl) ?_
                    refine lv_iload_n hx hb dX10_append_26 rfl (lv_at hl 4 rfl) ?_
                    refine lv_icmp_ge (tgt := 68) hx hb dX10_append_27 (by decide) (fun h => absurd h (by decide)) (fun _ => ?_)
                    refine lv_lload_n hx hb dX10_append_30 rfl (lv_at hl 3 rfl) ?_
                    refine lv_iload hx hb dX10_append_31 (lv_at hl 0 rfl) ?_
                    refine g_Si (n := 2) (As := [.long v, .int 3]) (rest := []) (wr := [(h0, .inr (10, [.ref (ad 0), .int 0, .int (-1), .int (-1), .ref (ad 1), .ref (ad 2), .ref (ad 3), .ref (ad 4), .ref (ad 5), .ref (ad 6), .ref (ad 7), .ref (ad 8)])), (ad 0, .inl (dA 2, 480, .inl (fun _ => 0)))]) hx hb hml hg hown hK hP hD hS hA (c_X10_byteOf l D dA v 3 _) [] [0, 1] rfl (by decide) rfl (by decide) (by decide) q749 q149 q747 q748 (by decide +kernel) ⟨(Nat.le_of_ble_eq_true rfl), (Nat.le_of_ble_eq_true rfl)⟩ rfl hl.1 rfl (Nat.le_of_ble_eq_true rfl) dX10_append_33 ⟨(Nat.le_of_ble_eq_true rfl), (Nat.le_of_ble_eq_true rfl)⟩ (fun r271 u270 H locs w272 hP hD hS => ?_)
                    refine W.widen (k := 0) (n := 0) (Nat.le_of_ble_eq_true rfl) (Nat.le_of_ble_eq_true rfl) ?_
                    have hP : va_P D vwC [(h0, .inr (10, [.ref (ad 0), .int 0, .int (-1), .int (-1), .ref (ad 1), .ref (ad 2), .ref (ad 3), .ref (ad 4), .ref (ad 5), .ref (ad 6), .ref (ad 7), .ref (ad 8)])), (ad 0, .inl (dA 2, 480, .inl (fun _ => 0)))] H := hP
                    have hD : va_D A [(h0, .inr (10, [.ref (ad 0), .int 0, .int (-1), .int (-1), .ref (ad 1), .ref (ad 2), .ref (ad 3), .ref (ad 4), .ref (ad 5), .ref (ad 6), .ref (ad 7), .ref (ad 8)])), (ad 0, .inl (dA 2, 480, .inl (fun _ => 0)))] := hD
                    obtain rfl : r271 = bC v 3 := w272
                    refine lv_istore (lv' := [(5, .int (bC v 3)), (4, .int 3), (0, .ref h0), (1, .long v), (3, .int 8)]) hx hb dX10_append_36 hl (by decide) rfl (fun ls hl => ?_)
                    refine lv_iload hx hb dX10_append_38 (lv_at hl 0 rfl) ?_
                    refine lv_bipush (v := 32) hx hb dX10_append_40 (by decide) ?_
                    refine lv_icmp_lt (tgt := 52) hx hb dX10_append_42 (by decide) (fun k273 => ?_) (fun k273 => ?_)
                    · exact g_thr (cls := xIAE) (is := 101) (text := "a byte is not 32 .. 126") hx hb hg htr hown (by decide) q731 q167 (by decide +kernel) atIAE (by decide +kernel) hZ hS hml hl.1 hnt hlocks dX10_append_52 dX10_append_55 dX10_append_56 dX10_append_58 dX10_append_61 (Nat.le_of_ble_eq_true rfl) (Nat.le_of_ble_eq_true rfl) (Nat.le_of_ble_eq_true rfl) (Nat.le_of_ble_eq_true rfl) (Nat.le_of_ble_eq_true rfl) (Nat.le_of_ble_eq_true rfl) ⟨rfl, (fun h => by have h := h.2; rw [apI_8] at h; exact h.2.2.2.1.1 k273)⟩
                    · refine lv_iload hx hb dX10_append_45 (lv_at hl 0 rfl) ?_
                      refine lv_bipush (v := 126) hx hb dX10_append_47 (by decide) ?_
                      refine lv_icmp_le (tgt := 62) hx hb dX10_append_49 (by decide) (fun k274 => ?_) (fun k274 => ?_)
                      · refine lv_iinc (v := 4) (lv' := [(4, .int 4), (5, .int (bC v 3)), (0, .ref h0), (1, .long v), (3, .int 8)]) hx hb dX10_append_62 hl (k := 1) rfl (by decide) (by decide) rfl (fun ls hl => ?_)
                        refine lv_goto (tgt := 24) hx hb dX10_append_65 (by decide) ?_
                        refine lv_iload hx hb dX10_append_24 (lv_at hl 0 rfl) ?_
                        refine lv_iload_n hx hb dX10_append_26 rfl (lv_at hl 4 rfl) ?_
                        refine lv_icmp_ge (tgt := 68) hx hb dX10_append_27 (by decide) (fun h => absurd h (by decide)) (fun _ => ?_)
                        refine lv_lload_n hx hb dX10_append_30 rfl (lv_at hl 3 rfl) ?_
                        refine lv_iload hx hb dX10_append_31 (lv_at hl 0 rfl) ?_
                        refine g_Si (n := 2) (As := [.long v, .int 4]) (rest := []) (wr := [(h0, .inr (10, [.ref (ad 0), .int 0, .int (-1), .int (-1), .ref (ad 1), .ref (ad 2), .ref (ad 3), .ref (ad 4), .ref (ad 5), .ref (ad 6), .ref (ad 7), .ref (ad 8)])), (ad 0, .inl (dA 2, 480, .inl (fun _ => 0)))]) hx hb hml hg hown hK hP hD hS hA (c_X10_byteOf l D dA v 4 _) [] [0, 1] rfl (by decide) rfl (by decide) (by decide) q749 q149 q747 q748 (by decide +kernel) ⟨(Nat.le_of_ble_eq_true rfl), (Nat.le_of_ble_eq_true rfl)⟩ rfl hl.1 rfl (Nat.le_of_ble_eq_true rfl) dX10_append_33 ⟨(Nat.le_of_ble_eq_true rfl), (Nat.le_of_ble_eq_true rfl)⟩ (fun r276 u275 H locs w277 hP hD hS => ?_)
                        refine W.widen (k := 0) (n := 0) (Nat.le_of_ble_eq_true rfl) (Nat.le_of_ble_eq_true rfl) ?_
                        have hP : va_P D vwC [(h0, .inr (10, [.ref (ad 0), .int 0, .int (-1), .int (-1), .ref (ad 1), .ref (ad 2), .ref (ad 3), .ref (ad 4), .ref (ad 5), .ref (ad 6), .ref (ad 7), .ref (ad 8)])), (ad 0, .inl (dA 2, 480, .inl (fun _ => 0)))] H := hP
                        have hD : va_D A [(h0, .inr (10, [.ref (ad 0), .int 0, .int (-1), .int (-1), .ref (ad 1), .ref (ad 2), .ref (ad 3), .ref (ad 4), .ref (ad 5), .ref (ad 6), .ref (ad 7), .ref (ad 8)])), (ad 0, .inl (dA 2, 480, .inl (fun _ => 0)))] := hD
                        obtain rfl : r276 = bC v 4 := w277
                        refine lv_istore (lv' := [(5, .int (bC v 4)), (4, .int 4), (0, .ref h0), (1, .long v), (3, .int 8)]) hx hb dX10_append_36 hl (by decide) rfl (fun ls hl => ?_)
                        refine lv_iload hx hb dX10_append_38 (lv_at hl 0 rfl) ?_
                        refine lv_bipush (v := 32) hx hb dX10_append_40 (by decide) ?_
                        refine lv_icmp_lt (tgt := 52) hx hb dX10_append_42 (by decide) (fun k278 => ?_) (fun k278 => ?_)
                        · exact g_thr (cls := xIAE) (is := 101) (text := "a byte is not 32 .. 126") hx hb hg htr hown (by decide) q731 q167 (by decide +kernel) atIAE (by decide +kernel) hZ hS hml hl.1 hnt hlocks dX10_append_52 dX10_append_55 dX10_append_56 dX10_append_58 dX10_append_61 (Nat.le_of_ble_eq_true rfl) (Nat.le_of_ble_eq_true rfl) (Nat.le_of_ble_eq_true rfl) (Nat.le_of_ble_eq_true rfl) (Nat.le_of_ble_eq_true rfl) (Nat.le_of_ble_eq_true rfl) ⟨rfl, (fun h => by have h := h.2; rw [apI_8] at h; exact h.2.2.2.2.1.1 k278)⟩
                        · refine lv_iload hx hb dX10_append_45 (lv_at hl 0 rfl) ?_
                          refine lv_bipush (v := 126) hx hb dX10_append_47 (by decide) ?_
                          refine lv_icmp_le (tgt := 62) hx hb dX10_append_49 (by decide) (fun k279 => ?_) (fun k279 => ?_)
                          · refine lv_iinc (v := 5) (lv' := [(4, .int 5), (5, .int (bC v 4)), (0, .ref h0), (1, .long v), (3, .int 8)]) hx hb dX10_append_62 hl (k := 1) rfl (by decide) (by decide) rfl (fun ls hl => ?_)
                            refine lv_goto (tgt := 24) hx hb dX10_append_65 (by decide) ?_
                            refine lv_iload hx hb dX10_append_24 (lv_at hl 0 rfl) ?_
                            refine lv_iload_n hx hb dX10_append_26 rfl (lv_at hl 4 rfl) ?_
                            refine lv_icmp_ge (tgt := 68) hx hb dX10_append_27 (by decide) (fun h => absurd h (by decide)) (fun _ => ?_)
                            refine lv_lload_n hx hb dX10_append_30 rfl (lv_at hl 3 rfl) ?_
                            refine lv_iload hx hb dX10_append_31 (lv_at hl 0 rfl) ?_
                            refine g_Si (n := 2) (As := [.long v, .int 5]) (rest := []) (wr := [(h0, .inr (10, [.ref (ad 0), .int 0, .int (-1), .int (-1), .ref (ad 1), .ref (ad 2), .ref (ad 3), .ref (ad 4), .ref (ad 5), .ref (ad 6), .ref (ad 7), .ref (ad 8)])), (ad 0, .inl (dA 2, 480, .inl (fun _ => 0)))]) hx hb hml hg hown hK hP hD hS hA (c_X10_byteOf l D dA v 5 _) [] [0, 1] rfl (by decide) rfl (by decide) (by decide) q749 q149 q747 q748 (by decide +kernel) ⟨(Nat.le_of_ble_eq_true rfl), (Nat.le_of_ble_eq_true rfl)⟩ rfl hl.1 rfl (Nat.le_of_ble_eq_true rfl) dX10_append_33 ⟨(Nat.le_of_ble_eq_true rfl), (Nat.le_of_ble_eq_true rfl)⟩ (fun r281 u280 H locs w282 hP hD hS => ?_)
                            refine W.widen (k := 0) (n := 0) (Nat.le_of_ble_eq_true rfl) (Nat.le_of_ble_eq_true rfl) ?_
                            have hP : va_P D vwC [(h0, .inr (10, [.ref (ad 0), .int 0, .int (-1), .int (-1), .ref (ad 1), .ref (ad 2), .ref (ad 3), .ref (ad 4), .ref (ad 5), .ref (ad 6), .ref (ad 7), .ref (ad 8)])), (ad 0, .inl (dA 2, 480, .inl (fun _ => 0)))] H := hP
                            have hD : va_D A [(h0, .inr (10, [.ref (ad 0), .int 0, .int (-1), .int (-1), .ref (ad 1), .ref (ad 2), .ref (ad 3), .ref (ad 4), .ref (ad 5), .ref (ad 6), .ref (ad 7), .ref (ad 8)])), (ad 0, .inl (dA 2, 480, .inl (fun _ => 0)))] := hD
                            obtain rfl : r281 = bC v 5 := w282
                            refine lv_istore (lv' := [(5, .int (bC v 5)), (4, .int 5), (0, .ref h0), (1, .long v), (3, .int 8)]) hx hb dX10_append_36 hl (by decide) rfl (fun ls hl => ?_)
                            refine lv_iload hx hb dX10_append_38 (lv_at hl 0 rfl) ?_
                            refine lv_bipush (v := 32) hx hb dX10_append_40 (by decide) ?_
                            refine lv_icmp_lt (tgt := 52) hx hb dX10_append_42 (by decide) (fun k283 => ?_) (fun k283 => ?_)
                            · exact g_thr (cls := xIAE) (is := 101) (text := "a byte is not 32 .. 126") hx hb hg htr hown (by decide) q731 q167 (by decide +kernel) atIAE (by decide +kernel) hZ hS hml hl.1 hnt hlocks dX10_append_52 dX10_append_55 dX10_append_56 dX10_append_58 dX10_append_61 (Nat.le_of_ble_eq_true rfl) (Nat.le_of_ble_eq_true rfl) (Nat.le_of_ble_eq_true rfl) (Nat.le_of_ble_eq_true rfl) (Nat.le_of_ble_eq_true rfl) (Nat.le_of_ble_eq_true rfl) ⟨rfl, (fun h => by have h := h.2; rw [apI_8] at h; exact h.2.2.2.2.2.1.1 k283)⟩
                            · refine lv_iload hx hb dX10_append_45 (lv_at hl 0 rfl) ?_
                              refine lv_bipush (v := 126) hx hb dX10_append_47 (by decide) ?_
                              refine lv_icmp_le (tgt := 62) hx hb dX10_append_49 (by decide) (fun k284 => ?_) (fun k284 => ?_)
                              · refine lv_iinc (v := 6) (lv' := [(4, .int 6), (5, .int (bC v 5)), (0, .ref h0), (1, .long v), (3, .int 8)]) hx hb dX10_append_62 hl (k := 1) rfl (by decide) (by decide) rfl (fun ls hl => ?_)
                                refine lv_goto (tgt := 24) hx hb dX10_append_65 (by decide) ?_
                                refine lv_iload hx hb dX10_append_24 (lv_at hl 0 rfl) ?_
                                refine lv_iload_n hx hb dX10_append_26 rfl (lv_at hl 4 rfl) ?_
                                refine lv_icmp_ge (tgt := 68) hx hb dX10_append_27 (by decide) (fun h => absurd h (by decide)) (fun _ => ?_)
                                refine lv_lload_n hx hb dX10_append_30 rfl (lv_at hl 3 rfl) ?_
                                refine lv_iload hx hb dX10_append_31 (lv_at hl 0 rfl) ?_
                                refine g_Si (n := 2) (As := [.long v, .int 6]) (rest := []) (wr := [(h0, .inr (10, [.ref (ad 0), .int 0, .int (-1), .int (-1), .ref (ad 1), .ref (ad 2), .ref (ad 3), .ref (ad 4), .ref (ad 5), .ref (ad 6), .ref (ad 7), .ref (ad 8)])), (ad 0, .inl (dA 2, 480, .inl (fun _ => 0)))]) hx hb hml hg hown hK hP hD hS hA (c_X10_byteOf l D dA v 6 _) [] [0, 1] rfl (by decide) rfl (by decide) (by decide) q749 q149 q747 q748 (by decide +kernel) ⟨(Nat.le_of_ble_eq_true rfl), (Nat.le_of_ble_eq_true rfl)⟩ rfl hl.1 rfl (Nat.le_of_ble_eq_true rfl) dX10_append_33 ⟨(Nat.le_of_ble_eq_true rfl), (Nat.le_of_ble_eq_true rfl)⟩ (fun r286 u285 H locs w287 hP hD hS => ?_)
                                refine W.widen (k := 0) (n := 0) (Nat.le_of_ble_eq_true rfl) (Nat.le_of_ble_eq_true rfl) ?_
                                have hP : va_P D vwC [(h0, .inr (10, [.ref (ad 0), .int 0, .int (-1), .int (-1), .ref (ad 1), .ref (ad 2), .ref (ad 3), .ref (ad 4), .ref (ad 5), .ref (ad 6), .ref (ad 7), .ref (ad 8)])), (ad 0, .inl (dA 2, 480, .inl (fun _ => 0)))] H := hP
                                have hD : va_D A [(h0, .inr (10, [.ref (ad 0), .int 0, .int (-1), .int (-1), .ref (ad 1), .ref (ad 2), .ref (ad 3), .ref (ad 4), .ref (ad 5), .ref (ad 6), .ref (ad 7), .ref (ad 8)])), (ad 0, .inl (dA 2, 480, .inl (fun _ => 0)))] := hD
                                obtain rfl : r286 = bC v 6 := w287
                                refine lv_istore (lv' := [(5, .int (bC v 6)), (4, .int 6), (0, .ref h0), (1, .long v), (3, .int 8)]) hx hb dX10_append_36 hl (by decide) rfl (fun ls hl => ?_)
                                refine lv_iload hx hb dX10_append_38 (lv_at hl 0 rfl) ?_
                                refine lv_bipush (v := 32) hx hb dX10_append_40 (by decide) ?_
                                refine lv_icmp_lt (tgt := 52) hx hb dX10_append_42 (by decide) (fun k288 => ?_) (fun k288 => ?_)
                                · exact g_thr (cls := xIAE) (is := 101) (text := "a byte is not 32 .. 126") hx hb hg htr hown (by decide) q731 q167 (by decide +kernel) atIAE (by decide +kernel) hZ hS hml hl.1 hnt hlocks dX10_append_52 dX10_append_55 dX10_append_56 dX10_append_58 dX10_append_61 (Nat.le_of_ble_eq_true rfl) (Nat.le_of_ble_eq_true rfl) (Nat.le_of_ble_eq_true rfl) (Nat.le_of_ble_eq_true rfl) (Nat.le_of_ble_eq_true rfl) (Nat.le_of_ble_eq_true rfl) ⟨rfl, (fun h => by have h := h.2; rw [apI_8] at h; exact h.2.2.2.2.2.2.1.1 k288)⟩
                                · refine lv_iload hx hb dX10_append_45 (lv_at hl 0 rfl) ?_
                                  refine lv_bipush (v := 126) hx hb dX10_append_47 (by decide) ?_
                                  refine lv_icmp_le (tgt := 62) hx hb dX10_append_49 (by decide) (fun k289 => ?_) (fun k289 => ?_)
                                  · refine lv_iinc (v := 7) (lv' := [(4, .int 7), (5, .int (bC v 6)), (0, .ref h0), (1, .long v), (3, .int 8)]) hx hb dX10_append_62 hl (k := 1) rfl (by decide) (by decide) rfl (fun ls hl => ?_)
                                    refine lv_goto (tgt := 24) hx hb dX10_append_65 (by decide) ?_
                                    refine lv_iload hx hb dX10_append_24 (lv_at hl 0 rfl) ?_
                                    refine lv_iload_n hx hb dX10_append_26 rfl (lv_at hl 4 rfl) ?_
                                    refine lv_icmp_ge (tgt := 68) hx hb dX10_append_27 (by decide) (fun h => absurd h (by decide)) (fun _ => ?_)
                                    refine lv_lload_n hx hb dX10_append_30 rfl (lv_at hl 3 rfl) ?_
                                    refine lv_iload hx hb dX10_append_31 (lv_at hl 0 rfl) ?_
                                    refine g_Si (n := 2) (As := [.long v, .int 7]) (rest := []) (wr := [(h0, .inr (10, [.ref (ad 0), .int 0, .int (-1), .int (-1), .ref (ad 1), .ref (ad 2), .ref (ad 3), .ref (ad 4), .ref (ad 5), .ref (ad 6), .ref (ad 7), .ref (ad 8)])), (ad 0, .inl (dA 2, 480, .inl (fun _ => 0)))]) hx hb hml hg hown hK hP hD hS hA (c_X10_byteOf l D dA v 7 _) [] [0, 1] rfl (by decide) rfl (by decide) (by decide) q749 q149 q747 q748 (by decide +kernel) ⟨(Nat.le_of_ble_eq_true rfl), (Nat.le_of_ble_eq_true rfl)⟩ rfl hl.1 rfl (Nat.le_of_ble_eq_true rfl) dX10_append_33 ⟨(Nat.le_of_ble_eq_true rfl), (Nat.le_of_ble_eq_true rfl)⟩ (fun r291 u290 H locs w292 hP hD hS => ?_)
                                    refine W.widen (k := 0) (n := 0) (Nat.le_of_ble_eq_true rfl) (Nat.le_of_ble_eq_true rfl) ?_
                                    have hP : va_P D vwC [(h0, .inr (10, [.ref (ad 0), .int 0, .int (-1), .int (-1), .ref (ad 1), .ref (ad 2), .ref (ad 3), .ref (ad 4), .ref (ad 5), .ref (ad 6), .ref (ad 7), .ref (ad 8)])), (ad 0, .inl (dA 2, 480, .inl (fun _ => 0)))] H := hP
                                    have hD : va_D A [(h0, .inr (10, [.ref (ad 0), .int 0, .int (-1), .int (-1), .ref (ad 1), .ref (ad 2), .ref (ad 3), .ref (ad 4), .ref (ad 5), .ref (ad 6), .ref (ad 7), .ref (ad 8)])), (ad 0, .inl (dA 2, 480, .inl (fun _ => 0)))] := hD
                                    obtain rfl : r291 = bC v 7 := w292
                                    refine lv_istore (lv' := [(5, .int (bC v 7)), (4, .int 7), (0, .ref h0), (1, .long v), (3, .int 8)]) hx hb dX10_append_36 hl (by decide) rfl (fun ls hl => ?_)
                                    refine lv_iload hx hb dX10_append_38 (lv_at hl 0 rfl) ?_
                                    refine lv_bipush (v := 32) hx hb dX10_append_40 (by decide) ?_
                                    refine lv_icmp_lt (tgt := 52) hx hb dX10_append_42 (by decide) (fun k293 => ?_) (fun k293 => ?_)
                                    · exact g_thr (cls := xIAE) (is := 101) (text := "a byte is not 32 .. 126") hx hb hg htr hown (by decide) q731 q167 (by decide +kernel) atIAE (by decide +kernel) hZ hS hml hl.1 hnt hlocks dX10_append_52 dX10_append_55 dX10_append_56 dX10_append_58 dX10_append_61 (Nat.le_of_ble_eq_true rfl) (Nat.le_of_ble_eq_true rfl) (Nat.le_of_ble_eq_true rfl) (Nat.le_of_ble_eq_true rfl) (Nat.le_of_ble_eq_true rfl) (Nat.le_of_ble_eq_true rfl) ⟨rfl, (fun h => by have h := h.2; rw [apI_8] at h; exact h.2.2.2.2.2.2.2.1.1 k293)⟩
                                    · refine lv_iload hx hb dX10_append_45 (lv_at hl 0 rfl) ?_
                                      refine lv_bipush (v := 126) hx hb dX10_append_47 (by decide) ?_
                                      refine lv_icmp_le (tgt := 62) hx hb dX10_append_49 (by decide) (fun k294 => ?_) (fun k294 => ?_)
                                      · refine lv_iinc (v := 8) (lv' := [(4, .int 8), (5, .int (bC v 7)), (0, .ref h0), (1, .long v), (3, .int 8)]) hx hb dX10_append_62 hl (k := 1) rfl (by decide) (by decide) rfl (fun ls hl => ?_)
                                        refine lv_goto (tgt := 24) hx hb dX10_append_65 (by decide) ?_
                                        refine lv_iload hx hb dX10_append_24 (lv_at hl 0 rfl) ?_
                                        refine lv_iload_n hx hb dX10_append_26 rfl (lv_at hl 4 rfl) ?_
                                        refine lv_icmp_ge (tgt := 68) hx hb dX10_append_27 (by decide) (fun _ => ?_) (fun h => absurd (by decide) h)
                                        refine lv_aload_n hx hb dX10_append_68 rfl (lv_at hl 2 rfl) ?_
                                        refine g_get hx hb hg hown hK hP 0 rfl rfl inX10 1 (by decide) q607 rfl dX10_append_69 ?_
                                        refine lv_iload_n hx hb dX10_append_72 rfl (lv_at hl 4 rfl) ?_
                                        refine lv_iadd hx hb dX10_append_73 ?_
                                        refine g_nrm (y := 8) (by decide) ?_
                                        refine lv_sipush (v := 480) hx hb dX10_append_74 (by decide) ?_
                                        refine lv_icmp_le (tgt := 90) hx hb dX10_append_77 (by decide) (fun _ => ?_) (fun h => absurd (by decide) h)
                                        refine lv_iload_n hx hb dX10_append_90 rfl (lv_at hl 4 rfl) ?_
                                        refine lv_iconst (v := 1) hx hb dX10_append_91 (by decide) ?_
                                        refine lv_isub hx hb dX10_append_92 ?_
                                        refine g_nrm (y := 7) (by decide) ?_
                                        refine lv_istore (lv' := [(4, .int 7), (5, .int (bC v 7)), (0, .ref h0), (1, .long v), (3, .int 8)]) hx hb dX10_append_93 hl (by decide) rfl (fun ls hl => ?_)
                                        refine lv_iload hx hb dX10_append_95 (lv_at hl 0 rfl) ?_
                                        refine lv_if_lt (tgt := 132) hx hb dX10_append_97 (by decide) (fun h => absurd h (by decide)) (fun _ => ?_)
                                        refine lv_aload_n hx hb dX10_append_100 rfl (lv_at hl 2 rfl) ?_
                                        refine g_get hx hb hg hown hK hP 0 rfl rfl inX10 0 (by decide) q606 rfl dX10_append_101 ?_
                                        refine lv_aload_n hx hb dX10_append_104 rfl (lv_at hl 2 rfl) ?_
                                        refine g_get hx hb hg hown hK hP 0 rfl rfl inX10 1 (by decide) q607 rfl dX10_append_105 ?_
                                        refine lv_lload_n hx hb dX10_append_108 rfl (lv_at hl 3 rfl) ?_
                                        refine lv_iload hx hb dX10_append_109 (lv_at hl 0 rfl) ?_
                                        refine g_Si (n := 2) (As := [.long v, .int 7]) (rest := [.int 0, .ref (ad 0)]) (wr := [(h0, .inr (10, [.ref (ad 0), .int 0, .int (-1), .int (-1), .ref (ad 1), .ref (ad 2), .ref (ad 3), .ref (ad 4), .ref (ad 5), .ref (ad 6), .ref (ad 7), .ref (ad 8)])), (ad 0, .inl (dA 2, 480, .inl (fun _ => 0)))]) hx hb hml hg hown hK hP hD hS hA (c_X10_byteOf l D dA v 7 _) [] [0, 1] rfl (by decide) rfl (by decide) (by decide) q749 q149 q747 q748 (by decide +kernel) ⟨(Nat.le_of_ble_eq_true rfl), (Nat.le_of_ble_eq_true rfl)⟩ rfl hl.1 rfl (Nat.le_of_ble_eq_true rfl) dX10_append_111 ⟨(Nat.le_of_ble_eq_true rfl), (Nat.le_of_ble_eq_true rfl)⟩ (fun r296 u295 H locs w297 hP hD hS => ?_)
                                        refine W.widen (k := 0) (n := 0) (Nat.le_of_ble_eq_true rfl) (Nat.le_of_ble_eq_true rfl) ?_
                                        have hP : va_P D vwC [(h0, .inr (10, [.ref (ad 0), .int 0, .int (-1), .int (-1), .ref (ad 1), .ref (ad 2), .ref (ad 3), .ref (ad 4), .ref (ad 5), .ref (ad 6), .ref (ad 7), .ref (ad 8)])), (ad 0, .inl (dA 2, 480, .inl (fun _ => 0)))] H := hP
                                        have hD : va_D A [(h0, .inr (10, [.ref (ad 0), .int 0, .int (-1), .int (-1), .ref (ad 1), .ref (ad 2), .ref (ad 3), .ref (ad 4), .ref (ad 5), .ref (ad 6), .ref (ad 7), .ref (ad 8)])), (ad 0, .inl (dA 2, 480, .inl (fun _ => 0)))] := hD
                                        obtain rfl : r296 = bC v 7 := w297
                                        refine lv_i2c (v := (((bC v 7).toUInt32 % 65536).toInt32)) hx hb dX10_append_114 rfl ?_
                                        refine va_cast hx hb hK hP hD hS 1 2 rfl rfl (by unfold vp_in; decide) dX10_append_115 (fun H locs hP hD hS => ?_)
                                        have hP : va_P D vwC [(h0, .inr (10, [.ref (ad 0), .int 0, .int (-1), .int (-1), .ref (ad 1), .ref (ad 2), .ref (ad 3), .ref (ad 4), .ref (ad 5), .ref (ad 6), .ref (ad 7), .ref (ad 8)])), (ad 0, .inl (dA 2, 480, .inl (upd (fun _ => 0) (0 : Int32).toNatClampNeg (vp_nar .char (((bC v 7).toUInt32 % 65536).toInt32)))))] H := hP
                                        have hD : va_D A [(h0, .inr (10, [.ref (ad 0), .int 0, .int (-1), .int (-1), .ref (ad 1), .ref (ad 2), .ref (ad 3), .ref (ad 4), .ref (ad 5), .ref (ad 6), .ref (ad 7), .ref (ad 8)])), (ad 0, .inl (dA 2, 480, .inl (upd (fun _ => 0) (0 : Int32).toNatClampNeg (vp_nar .char (((bC v 7).toUInt32 % 65536).toInt32)))))] := hD
                                        generalize (upd (fun _ => 0) (0 : Int32).toNatClampNeg (vp_nar .char (((bC v 7).toUInt32 % 65536).toInt32))) = f298 at hP hD
                                        refine lv_aload_n hx hb dX10_append_116 rfl (lv_at hl 2 rfl) ?_
                                        refine lv_dup hx hb dX10_append_117 rfl ?_
                                        refine g_get hx hb hg hown hK hP 0 rfl rfl inX10 1 (by decide) q607 rfl dX10_append_118 ?_
                                        refine lv_iconst (v := 1) hx hb dX10_append_121 (by decide) ?_
                                        refine lv_iadd hx hb dX10_append_122 ?_
                                        refine g_nrm (y := 1) (by decide) ?_
                                        refine g_put (w' := [(h0, .inr (10, [.ref (ad 0), .int 1, .int (-1), .int (-1), .ref (ad 1), .ref (ad 2), .ref (ad 3), .ref (ad 4), .ref (ad 5), .ref (ad 6), .ref (ad 7), .ref (ad 8)])), (ad 0, .inl (dA 2, 480, .inl f298))]) hx hb hg hown hK hP hD hS 0 rfl rfl inX10 tyX10_ok nmX10 1 (by decide) q607 rfl rfl rfl (Nat.le_of_ble_eq_true rfl) rfl dX10_append_123 (fun H locs hP hD hS => ?_)
                                        refine lv_iinc (v := 6) (lv' := [(4, .int 6), (5, .int (bC v 7)), (0, .ref h0), (1, .long v), (3, .int 8)]) hx hb dX10_append_126 hl (k := 0) rfl (by decide) (by decide) rfl (fun ls hl => ?_)
                                        refine lv_goto (tgt := 95) hx hb dX10_append_129 (by decide) ?_
                                        refine lv_iload hx hb dX10_append_95 (lv_at hl 0 rfl) ?_
                                        refine lv_if_lt (tgt := 132) hx hb dX10_append_97 (by decide) (fun h => absurd h (by decide)) (fun _ => ?_)
                                        refine lv_aload_n hx hb dX10_append_100 rfl (lv_at hl 2 rfl) ?_
                                        refine g_get hx hb hg hown hK hP 0 rfl rfl inX10 0 (by decide) q606 rfl dX10_append_101 ?_
                                        refine lv_aload_n hx hb dX10_append_104 rfl (lv_at hl 2 rfl) ?_
                                        refine g_get hx hb hg hown hK hP 0 rfl rfl inX10 1 (by decide) q607 rfl dX10_append_105 ?_
                                        refine lv_lload_n hx hb dX10_append_108 rfl (lv_at hl 3 rfl) ?_
                                        refine lv_iload hx hb dX10_append_109 (lv_at hl 0 rfl) ?_
                                        refine g_Si (n := 2) (As := [.long v, .int 6]) (rest := [.int 1, .ref (ad 0)]) (wr := [(h0, .inr (10, [.ref (ad 0), .int 1, .int (-1), .int (-1), .ref (ad 1), .ref (ad 2), .ref (ad 3), .ref (ad 4), .ref (ad 5), .ref (ad 6), .ref (ad 7), .ref (ad 8)])), (ad 0, .inl (dA 2, 480, .inl f298))]) hx hb hml hg hown hK hP hD hS hA (c_X10_byteOf l D dA v 6 _) [] [0, 1] rfl (by decide) rfl (by decide) (by decide) q749 q149 q747 q748 (by decide +kernel) ⟨(Nat.le_of_ble_eq_true rfl), (Nat.le_of_ble_eq_true rfl)⟩ rfl hl.1 rfl (Nat.le_of_ble_eq_true rfl) dX10_append_111 ⟨(Nat.le_of_ble_eq_true rfl), (Nat.le_of_ble_eq_true rfl)⟩ (fun r300 u299 H locs w301 hP hD hS => ?_)
                                        refine W.widen (k := 0) (n := 0) (Nat.le_of_ble_eq_true rfl) (Nat.le_of_ble_eq_true rfl) ?_
                                        have hP : va_P D vwC [(h0, .inr (10, [.ref (ad 0), .int 1, .int (-1), .int (-1), .ref (ad 1), .ref (ad 2), .ref (ad 3), .ref (ad 4), .ref (ad 5), .ref (ad 6), .ref (ad 7), .ref (ad 8)])), (ad 0, .inl (dA 2, 480, .inl f298))] H := hP
                                        have hD : va_D A [(h0, .inr (10, [.ref (ad 0), .int 1, .int (-1), .int (-1), .ref (ad 1), .ref (ad 2), .ref (ad 3), .ref (ad 4), .ref (ad 5), .ref (ad 6), .ref (ad 7), .ref (ad 8)])), (ad 0, .inl (dA 2, 480, .inl f298))] := hD
                                        obtain rfl : r300 = bC v 6 := w301
                                        refine lv_i2c (v := (((bC v 6).toUInt32 % 65536).toInt32)) hx hb dX10_append_114 rfl ?_
                                        refine va_cast hx hb hK hP hD hS 1 2 rfl rfl (by unfold vp_in; decide) dX10_append_115 (fun H locs hP hD hS => ?_)
                                        have hP : va_P D vwC [(h0, .inr (10, [.ref (ad 0), .int 1, .int (-1), .int (-1), .ref (ad 1), .ref (ad 2), .ref (ad 3), .ref (ad 4), .ref (ad 5), .ref (ad 6), .ref (ad 7), .ref (ad 8)])), (ad 0, .inl (dA 2, 480, .inl (upd f298 (1 : Int32).toNatClampNeg (vp_nar .char (((bC v 6).toUInt32 % 65536).toInt32)))))] H := hP
                                        have hD : va_D A [(h0, .inr (10, [.ref (ad 0), .int 1, .int (-1), .int (-1), .ref (ad 1), .ref (ad 2), .ref (ad 3), .ref (ad 4), .ref (ad 5), .ref (ad 6), .ref (ad 7), .ref (ad 8)])), (ad 0, .inl (dA 2, 480, .inl (upd f298 (1 : Int32).toNatClampNeg (vp_nar .char (((bC v 6).toUInt32 % 65536).toInt32)))))] := hD
                                        generalize (upd f298 (1 : Int32).toNatClampNeg (vp_nar .char (((bC v 6).toUInt32 % 65536).toInt32))) = f302 at hP hD
                                        refine lv_aload_n hx hb dX10_append_116 rfl (lv_at hl 2 rfl) ?_
                                        refine lv_dup hx hb dX10_append_117 rfl ?_
                                        refine g_get hx hb hg hown hK hP 0 rfl rfl inX10 1 (by decide) q607 rfl dX10_append_118 ?_
                                        refine lv_iconst (v := 1) hx hb dX10_append_121 (by decide) ?_
                                        refine lv_iadd hx hb dX10_append_122 ?_
                                        refine g_nrm (y := 2) (by decide) ?_
                                        refine g_put (w' := [(h0, .inr (10, [.ref (ad 0), .int 2, .int (-1), .int (-1), .ref (ad 1), .ref (ad 2), .ref (ad 3), .ref (ad 4), .ref (ad 5), .ref (ad 6), .ref (ad 7), .ref (ad 8)])), (ad 0, .inl (dA 2, 480, .inl f302))]) hx hb hg hown hK hP hD hS 0 rfl rfl inX10 tyX10_ok nmX10 1 (by decide) q607 rfl rfl rfl (Nat.le_of_ble_eq_true rfl) rfl dX10_append_123 (fun H locs hP hD hS => ?_)
                                        refine lv_iinc (v := 5) (lv' := [(4, .int 5), (5, .int (bC v 7)), (0, .ref h0), (1, .long v), (3, .int 8)]) hx hb dX10_append_126 hl (k := 0) rfl (by decide) (by decide) rfl (fun ls hl => ?_)
                                        refine lv_goto (tgt := 95) hx hb dX10_append_129 (by decide) ?_
                                        refine lv_iload hx hb dX10_append_95 (lv_at hl 0 rfl) ?_
                                        refine lv_if_lt (tgt := 132) hx hb dX10_append_97 (by decide) (fun h => absurd h (by decide)) (fun _ => ?_)
                                        refine lv_aload_n hx hb dX10_append_100 rfl (lv_at hl 2 rfl) ?_
                                        refine g_get hx hb hg hown hK hP 0 rfl rfl inX10 0 (by decide) q606 rfl dX10_append_101 ?_
                                        refine lv_aload_n hx hb dX10_append_104 rfl (lv_at hl 2 rfl) ?_
                                        refine g_get hx hb hg hown hK hP 0 rfl rfl inX10 1 (by decide) q607 rfl dX10_append_105 ?_
                                        refine lv_lload_n hx hb dX10_append_108 rfl (lv_at hl 3 rfl) ?_
                                        refine lv_iload hx hb dX10_append_109 (lv_at hl 0 rfl) ?_
                                        refine g_Si (n := 2) (As := [.long v, .int 5]) (rest := [.int 2, .ref (ad 0)]) (wr := [(h0, .inr (10, [.ref (ad 0), .int 2, .int (-1), .int (-1), .ref (ad 1), .ref (ad 2), .ref (ad 3), .ref (ad 4), .ref (ad 5), .ref (ad 6), .ref (ad 7), .ref (ad 8)])), (ad 0, .inl (dA 2, 480, .inl f302))]) hx hb hml hg hown hK hP hD hS hA (c_X10_byteOf l D dA v 5 _) [] [0, 1] rfl (by decide) rfl (by decide) (by decide) q749 q149 q747 q748 (by decide +kernel) ⟨(Nat.le_of_ble_eq_true rfl), (Nat.le_of_ble_eq_true rfl)⟩ rfl hl.1 rfl (Nat.le_of_ble_eq_true rfl) dX10_append_111 ⟨(Nat.le_of_ble_eq_true rfl), (Nat.le_of_ble_eq_true rfl)⟩ (fun r304 u303 H locs w305 hP hD hS => ?_)
                                        refine W.widen (k := 0) (n := 0) (Nat.le_of_ble_eq_true rfl) (Nat.le_of_ble_eq_true rfl) ?_
                                        have hP : va_P D vwC [(h0, .inr (10, [.ref (ad 0), .int 2, .int (-1), .int (-1), .ref (ad 1), .ref (ad 2), .ref (ad 3), .ref (ad 4), .ref (ad 5), .ref (ad 6), .ref (ad 7), .ref (ad 8)])), (ad 0, .inl (dA 2, 480, .inl f302))] H := hP
                                        have hD : va_D A [(h0, .inr (10, [.ref (ad 0), .int 2, .int (-1), .int (-1), .ref (ad 1), .ref (ad 2), .ref (ad 3), .ref (ad 4), .ref (ad 5), .ref (ad 6), .ref (ad 7), .ref (ad 8)])), (ad 0, .inl (dA 2, 480, .inl f302))] := hD
                                        obtain rfl : r304 = bC v 5 := w305
                                        refine lv_i2c (v := (((bC v 5).toUInt32 % 65536).toInt32)) hx hb dX10_append_114 rfl ?_
                                        refine va_cast hx hb hK hP hD hS 1 2 rfl rfl (by unfold vp_in; decide) dX10_append_115 (fun H locs hP hD hS => ?_)
                                        have hP : va_P D vwC [(h0, .inr (10, [.ref (ad 0), .int 2, .int (-1), .int (-1), .ref (ad 1), .ref (ad 2), .ref (ad 3), .ref (ad 4), .ref (ad 5), .ref (ad 6), .ref (ad 7), .ref (ad 8)])), (ad 0, .inl (dA 2, 480, .inl (upd f302 (2 : Int32).toNatClampNeg (vp_nar .char (((bC v 5).toUInt32 % 65536).toInt32)))))] H := hP
                                        have hD : va_D A [(h0, .inr (10, [.ref (ad 0), .int 2, .int (-1), .int (-1), .ref (ad 1), .ref (ad 2), .ref (ad 3), .ref (ad 4), .ref (ad 5), .ref (ad 6), .ref (ad 7), .ref (ad 8)])), (ad 0, .inl (dA 2, 480, .inl (upd f302 (2 : Int32).toNatClampNeg (vp_nar .char (((bC v 5).toUInt32 % 65536).toInt32)))))] := hD
                                        generalize (upd f302 (2 : Int32).toNatClampNeg (vp_nar .char (((bC v 5).toUInt32 % 65536).toInt32))) = f306 at hP hD
                                        refine lv_aload_n hx hb dX10_append_116 rfl (lv_at hl 2 rfl) ?_
                                        refine lv_dup hx hb dX10_append_117 rfl ?_
                                        refine g_get hx hb hg hown hK hP 0 rfl rfl inX10 1 (by decide) q607 rfl dX10_append_118 ?_
                                        refine lv_iconst (v := 1) hx hb dX10_append_121 (by decide) ?_
                                        refine lv_iadd hx hb dX10_append_122 ?_
                                        refine g_nrm (y := 3) (by decide) ?_
                                        refine g_put (w' := [(h0, .inr (10, [.ref (ad 0), .int 3, .int (-1), .int (-1), .ref (ad 1), .ref (ad 2), .ref (ad 3), .ref (ad 4), .ref (ad 5), .ref (ad 6), .ref (ad 7), .ref (ad 8)])), (ad 0, .inl (dA 2, 480, .inl f306))]) hx hb hg hown hK hP hD hS 0 rfl rfl inX10 tyX10_ok nmX10 1 (by decide) q607 rfl rfl rfl (Nat.le_of_ble_eq_true rfl) rfl dX10_append_123 (fun H locs hP hD hS => ?_)
                                        refine lv_iinc (v := 4) (lv' := [(4, .int 4), (5, .int (bC v 7)), (0, .ref h0), (1, .long v), (3, .int 8)]) hx hb dX10_append_126 hl (k := 0) rfl (by decide) (by decide) rfl (fun ls hl => ?_)
                                        refine lv_goto (tgt := 95) hx hb dX10_append_129 (by decide) ?_
                                        refine lv_iload hx hb dX10_append_95 (lv_at hl 0 rfl) ?_
                                        refine lv_if_lt (tgt := 132) hx hb dX10_append_97 (by decide) (fun h => absurd h (by decide)) (fun _ => ?_)
                                        refine lv_aload_n hx hb dX10_append_100 rfl (lv_at hl 2 rfl) ?_
                                        refine g_get hx hb hg hown hK hP 0 rfl rfl inX10 0 (by decide) q606 rfl dX10_append_101 ?_
                                        refine lv_aload_n hx hb dX10_append_104 rfl (lv_at hl 2 rfl) ?_
                                        refine g_get hx hb hg hown hK hP 0 rfl rfl inX10 1 (by decide) q607 rfl dX10_append_105 ?_
                                        refine lv_lload_n hx hb dX10_append_108 rfl (lv_at hl 3 rfl) ?_
                                        refine lv_iload hx hb dX10_append_109 (lv_at hl 0 rfl) ?_
                                        refine g_Si (n := 2) (As := [.long v, .int 4]) (rest := [.int 3, .ref (ad 0)]) (wr := [(h0, .inr (10, [.ref (ad 0), .int 3, .int (-1), .int (-1), .ref (ad 1), .ref (ad 2), .ref (ad 3), .ref (ad 4), .ref (ad 5), .ref (ad 6), .ref (ad 7), .ref (ad 8)])), (ad 0, .inl (dA 2, 480, .inl f306))]) hx hb hml hg hown hK hP hD hS hA (c_X10_byteOf l D dA v 4 _) [] [0, 1] rfl (by decide) rfl (by decide) (by decide) q749 q149 q747 q748 (by decide +kernel) ⟨(Nat.le_of_ble_eq_true rfl), (Nat.le_of_ble_eq_true rfl)⟩ rfl hl.1 rfl (Nat.le_of_ble_eq_true rfl) dX10_append_111 ⟨(Nat.le_of_ble_eq_true rfl), (Nat.le_of_ble_eq_true rfl)⟩ (fun r308 u307 H locs w309 hP hD hS => ?_)
                                        refine W.widen (k := 0) (n := 0) (Nat.le_of_ble_eq_true rfl) (Nat.le_of_ble_eq_true rfl) ?_
                                        have hP : va_P D vwC [(h0, .inr (10, [.ref (ad 0), .int 3, .int (-1), .int (-1), .ref (ad 1), .ref (ad 2), .ref (ad 3), .ref (ad 4), .ref (ad 5), .ref (ad 6), .ref (ad 7), .ref (ad 8)])), (ad 0, .inl (dA 2, 480, .inl f306))] H := hP
                                        have hD : va_D A [(h0, .inr (10, [.ref (ad 0), .int 3, .int (-1), .int (-1), .ref (ad 1), .ref (ad 2), .ref (ad 3), .ref (ad 4), .ref (ad 5), .ref (ad 6), .ref (ad 7), .ref (ad 8)])), (ad 0, .inl (dA 2, 480, .inl f306))] := hD
                                        obtain rfl : r308 = bC v 4 := w309
                                        refine lv_i2c (v := (((bC v 4).toUInt32 % 65536).toInt32)) hx hb dX10_append_114 rfl ?_
                                        refine va_cast hx hb hK hP hD hS 1 2 rfl rfl (by unfold vp_in; decide) dX10_append_115 (fun H locs hP hD hS => ?_)
                                        have hP : va_P D vwC [(h0, .inr (10, [.ref (ad 0), .int 3, .int (-1), .int (-1), .ref (ad 1), .ref (ad 2), .ref (ad 3), .ref (ad 4), .ref (ad 5), .ref (ad 6), .ref (ad 7), .ref (ad 8)])), (ad 0, .inl (dA 2, 480, .inl (upd f306 (3 : Int32).toNatClampNeg (vp_nar .char (((bC v 4).toUInt32 % 65536).toInt32)))))] H := hP
                                        have hD : va_D A [(h0, .inr (10, [.ref (ad 0), .int 3, .int (-1), .int (-1), .ref (ad 1), .ref (ad 2), .ref (ad 3), .ref (ad 4), .ref (ad 5), .ref (ad 6), .ref (ad 7), .ref (ad 8)])), (ad 0, .inl (dA 2, 480, .inl (upd f306 (3 : Int32).toNatClampNeg (vp_nar .char (((bC v 4).toUInt32 % 65536).toInt32)))))] := hD
                                        generalize (upd f306 (3 : Int32).toNatClampNeg (vp_nar .char (((bC v 4).toUInt32 % 65536).toInt32))) = f310 at hP hD
                                        refine lv_aload_n hx hb dX10_append_116 rfl (lv_at hl 2 rfl) ?_
                                        refine lv_dup hx hb dX10_append_117 rfl ?_
                                        refine g_get hx hb hg hown hK hP 0 rfl rfl inX10 1 (by decide) q607 rfl dX10_append_118 ?_
                                        refine lv_iconst (v := 1) hx hb dX10_append_121 (by decide) ?_
                                        refine lv_iadd hx hb dX10_append_122 ?_
                                        refine g_nrm (y := 4) (by decide) ?_
                                        refine g_put (w' := [(h0, .inr (10, [.ref (ad 0), .int 4, .int (-1), .int (-1), .ref (ad 1), .ref (ad 2), .ref (ad 3), .ref (ad 4), .ref (ad 5), .ref (ad 6), .ref (ad 7), .ref (ad 8)])), (ad 0, .inl (dA 2, 480, .inl f310))]) hx hb hg hown hK hP hD hS 0 rfl rfl inX10 tyX10_ok nmX10 1 (by decide) q607 rfl rfl rfl (Nat.le_of_ble_eq_true rfl) rfl dX10_append_123 (fun H locs hP hD hS => ?_)
                                        refine lv_iinc (v := 3) (lv' := [(4, .int 3), (5, .int (bC v 7)), (0, .ref h0), (1, .long v), (3, .int 8)]) hx hb dX10_append_126 hl (k := 0) rfl (by decide) (by decide) rfl (fun ls hl => ?_)
                                        refine lv_goto (tgt := 95) hx hb dX10_append_129 (by decide) ?_
                                        refine lv_iload hx hb dX10_append_95 (lv_at hl 0 rfl) ?_
                                        refine lv_if_lt (tgt := 132) hx hb dX10_append_97 (by decide) (fun h => absurd h (by decide)) (fun _ => ?_)
                                        refine lv_aload_n hx hb dX10_append_100 rfl (lv_at hl 2 rfl) ?_
                                        refine g_get hx hb hg hown hK hP 0 rfl rfl inX10 0 (by decide) q606 rfl dX10_append_101 ?_
                                        refine lv_aload_n hx hb dX10_append_104 rfl (lv_at hl 2 rfl) ?_
                                        refine g_get hx hb hg hown hK hP 0 rfl rfl inX10 1 (by decide) q607 rfl dX10_append_105 ?_
                                        refine lv_lload_n hx hb dX10_append_108 rfl (lv_at hl 3 rfl) ?_
                                        refine lv_iload hx hb dX10_append_109 (lv_at hl 0 rfl) ?_
                                        refine g_Si (n := 2) (As := [.long v, .int 3]) (rest := [.int 4, .ref (ad 0)]) (wr := [(h0, .inr (10, [.ref (ad 0), .int 4, .int (-1), .int (-1), .ref (ad 1), .ref (ad 2), .ref (ad 3), .ref (ad 4), .ref (ad 5), .ref (ad 6), .ref (ad 7), .ref (ad 8)])), (ad 0, .inl (dA 2, 480, .inl f310))]) hx hb hml hg hown hK hP hD hS hA (c_X10_byteOf l D dA v 3 _) [] [0, 1] rfl (by decide) rfl (by decide) (by decide) q749 q149 q747 q748 (by decide +kernel) ⟨(Nat.le_of_ble_eq_true rfl), (Nat.le_of_ble_eq_true rfl)⟩ rfl hl.1 rfl (Nat.le_of_ble_eq_true rfl) dX10_append_111 ⟨(Nat.le_of_ble_eq_true rfl), (Nat.le_of_ble_eq_true rfl)⟩ (fun r312 u311 H locs w313 hP hD hS => ?_)
                                        refine W.widen (k := 0) (n := 0) (Nat.le_of_ble_eq_true rfl) (Nat.le_of_ble_eq_true rfl) ?_
                                        have hP : va_P D vwC [(h0, .inr (10, [.ref (ad 0), .int 4, .int (-1), .int (-1), .ref (ad 1), .ref (ad 2), .ref (ad 3), .ref (ad 4), .ref (ad 5), .ref (ad 6), .ref (ad 7), .ref (ad 8)])), (ad 0, .inl (dA 2, 480, .inl f310))] H := hP
                                        have hD : va_D A [(h0, .inr (10, [.ref (ad 0), .int 4, .int (-1), .int (-1), .ref (ad 1), .ref (ad 2), .ref (ad 3), .ref (ad 4), .ref (ad 5), .ref (ad 6), .ref (ad 7), .ref (ad 8)])), (ad 0, .inl (dA 2, 480, .inl f310))] := hD
                                        obtain rfl : r312 = bC v 3 := w313
                                        refine lv_i2c (v := (((bC v 3).toUInt32 % 65536).toInt32)) hx hb dX10_append_114 rfl ?_
                                        refine va_cast hx hb hK hP hD hS 1 2 rfl rfl (by unfold vp_in; decide) dX10_append_115 (fun H locs hP hD hS => ?_)
                                        have hP : va_P D vwC [(h0, .inr (10, [.ref (ad 0), .int 4, .int (-1), .int (-1), .ref (ad 1), .ref (ad 2), .ref (ad 3), .ref (ad 4), .ref (ad 5), .ref (ad 6), .ref (ad 7), .ref (ad 8)])), (ad 0, .inl (dA 2, 480, .inl (upd f310 (4 : Int32).toNatClampNeg (vp_nar .char (((bC v 3).toUInt32 % 65536).toInt32)))))] H := hP
                                        have hD : va_D A [(h0, .inr (10, [.ref (ad 0), .int 4, .int (-1), .int (-1), .ref (ad 1), .ref (ad 2), .ref (ad 3), .ref (ad 4), .ref (ad 5), .ref (ad 6), .ref (ad 7), .ref (ad 8)])), (ad 0, .inl (dA 2, 480, .inl (upd f310 (4 : Int32).toNatClampNeg (vp_nar .char (((bC v 3).toUInt32 % 65536).toInt32)))))] := hD
                                        generalize (upd f310 (4 : Int32).toNatClampNeg (vp_nar .char (((bC v 3).toUInt32 % 65536).toInt32))) = f314 at hP hD
                                        refine lv_aload_n hx hb dX10_append_116 rfl (lv_at hl 2 rfl) ?_
                                        refine lv_dup hx hb dX10_append_117 rfl ?_
                                        refine g_get hx hb hg hown hK hP 0 rfl rfl inX10 1 (by decide) q607 rfl dX10_append_118 ?_
                                        refine lv_iconst (v := 1) hx hb dX10_append_121 (by decide) ?_
                                        refine lv_iadd hx hb dX10_append_122 ?_
                                        refine g_nrm (y := 5) (by decide) ?_
                                        refine g_put (w' := [(h0, .inr (10, [.ref (ad 0), .int 5, .int (-1), .int (-1), .ref (ad 1), .ref (ad 2), .ref (ad 3), .ref (ad 4), .ref (ad 5), .ref (ad 6), .ref (ad 7), .ref (ad 8)])), (ad 0, .inl (dA 2, 480, .inl f314))]) hx hb hg hown hK hP hD hS 0 rfl rfl inX10 tyX10_ok nmX10 1 (by decide) q607 rfl rfl rfl (Nat.le_of_ble_eq_true rfl) rfl dX10_append_123 (fun H locs hP hD hS => ?_)
                                        refine lv_iinc (v := 2) (lv' := [(4, .int 2), (5, .int (bC v 7)), (0, .ref h0), (1, .long v), (3, .int 8)]) hx hb dX10_append_126 hl (k := 0) rfl (by decide) (by decide) rfl (fun ls hl => ?_)
                                        refine lv_goto (tgt := 95) hx hb dX10_append_129 (by decide) ?_
                                        refine lv_iload hx hb dX10_append_95 (lv_at hl 0 rfl) ?_
                                        refine lv_if_lt (tgt := 132) hx hb dX10_append_97 (by decide) (fun h => absurd h (by decide)) (fun _ => ?_)
                                        refine lv_aload_n hx hb dX10_append_100 rfl (lv_at hl 2 rfl) ?_
                                        refine g_get hx hb hg hown hK hP 0 rfl rfl inX10 0 (by decide) q606 rfl dX10_append_101 ?_
                                        refine lv_aload_n hx hb dX10_append_104 rfl (lv_at hl 2 rfl) ?_
                                        refine g_get hx hb hg hown hK hP 0 rfl rfl inX10 1 (by decide) q607 rfl dX10_append_105 ?_
                                        refine lv_lload_n hx hb dX10_append_108 rfl (lv_at hl 3 rfl) ?_
                                        refine lv_iload hx hb dX10_append_109 (lv_at hl 0 rfl) ?_
                                        refine g_Si (n := 2) (As := [.long v, .int 2]) (rest := [.int 5, .ref (ad 0)]) (wr := [(h0, .inr (10, [.ref (ad 0), .int 5, .int (-1), .int (-1), .ref (ad 1), .ref (ad 2), .ref (ad 3), .ref (ad 4), .ref (ad 5), .ref (ad 6), .ref (ad 7), .ref (ad 8)])), (ad 0, .inl (dA 2, 480, .inl f314))]) hx hb hml hg hown hK hP hD hS hA (c_X10_byteOf l D dA v 2 _) [] [0, 1] rfl (by decide) rfl (by decide) (by decide) q749 q149 q747 q748 (by decide +kernel) ⟨(Nat.le_of_ble_eq_true rfl), (Nat.le_of_ble_eq_true rfl)⟩ rfl hl.1 rfl (Nat.le_of_ble_eq_true rfl) dX10_append_111 ⟨(Nat.le_of_ble_eq_true rfl), (Nat.le_of_ble_eq_true rfl)⟩ (fun r316 u315 H locs w317 hP hD hS => ?_)
                                        refine W.widen (k := 0) (n := 0) (Nat.le_of_ble_eq_true rfl) (Nat.le_of_ble_eq_true rfl) ?_
                                        have hP : va_P D vwC [(h0, .inr (10, [.ref (ad 0), .int 5, .int (-1), .int (-1), .ref (ad 1), .ref (ad 2), .ref (ad 3), .ref (ad 4), .ref (ad 5), .ref (ad 6), .ref (ad 7), .ref (ad 8)])), (ad 0, .inl (dA 2, 480, .inl f314))] H := hP
                                        have hD : va_D A [(h0, .inr (10, [.ref (ad 0), .int 5, .int (-1), .int (-1), .ref (ad 1), .ref (ad 2), .ref (ad 3), .ref (ad 4), .ref (ad 5), .ref (ad 6), .ref (ad 7), .ref (ad 8)])), (ad 0, .inl (dA 2, 480, .inl f314))] := hD
                                        obtain rfl : r316 = bC v 2 := w317
                                        refine lv_i2c (v := (((bC v 2).toUInt32 % 65536).toInt32)) hx hb dX10_append_114 rfl ?_
                                        refine va_cast hx hb hK hP hD hS 1 2 rfl rfl (by unfold vp_in; decide) dX10_append_115 (fun H locs hP hD hS => ?_)
                                        have hP : va_P D vwC [(h0, .inr (10, [.ref (ad 0), .int 5, .int (-1), .int (-1), .ref (ad 1), .ref (ad 2), .ref (ad 3), .ref (ad 4), .ref (ad 5), .ref (ad 6), .ref (ad 7), .ref (ad 8)])), (ad 0, .inl (dA 2, 480, .inl (upd f314 (5 : Int32).toNatClampNeg (vp_nar .char (((bC v 2).toUInt32 % 65536).toInt32)))))] H := hP
                                        have hD : va_D A [(h0, .inr (10, [.ref (ad 0), .int 5, .int (-1), .int (-1), .ref (ad 1), .ref (ad 2), .ref (ad 3), .ref (ad 4), .ref (ad 5), .ref (ad 6), .ref (ad 7), .ref (ad 8)])), (ad 0, .inl (dA 2, 480, .inl (upd f314 (5 : Int32).toNatClampNeg (vp_nar .char (((bC v 2).toUInt32 % 65536).toInt32)))))] := hD
                                        generalize (upd f314 (5 : Int32).toNatClampNeg (vp_nar .char (((bC v 2).toUInt32 % 65536).toInt32))) = f318 at hP hD
                                        refine lv_aload_n hx hb dX10_append_116 rfl (lv_at hl 2 rfl) ?_
                                        refine lv_dup hx hb dX10_append_117 rfl ?_
                                        refine g_get hx hb hg hown hK hP 0 rfl rfl inX10 1 (by decide) q607 rfl dX10_append_118 ?_
                                        refine lv_iconst (v := 1) hx hb dX10_append_121 (by decide) ?_
                                        refine lv_iadd hx hb dX10_append_122 ?_
                                        refine g_nrm (y := 6) (by decide) ?_
                                        refine g_put (w' := [(h0, .inr (10, [.ref (ad 0), .int 6, .int (-1), .int (-1), .ref (ad 1), .ref (ad 2), .ref (ad 3), .ref (ad 4), .ref (ad 5), .ref (ad 6), .ref (ad 7), .ref (ad 8)])), (ad 0, .inl (dA 2, 480, .inl f318))]) hx hb hg hown hK hP hD hS 0 rfl rfl inX10 tyX10_ok nmX10 1 (by decide) q607 rfl rfl rfl (Nat.le_of_ble_eq_true rfl) rfl dX10_append_123 (fun H locs hP hD hS => ?_)
                                        refine lv_iinc (v := 1) (lv' := [(4, .int 1), (5, .int (bC v 7)), (0, .ref h0), (1, .long v), (3, .int 8)]) hx hb dX10_append_126 hl (k := 0) rfl (by decide) (by decide) rfl (fun ls hl => ?_)
                                        refine lv_goto (tgt := 95) hx hb dX10_append_129 (by decide) ?_
                                        refine lv_iload hx hb dX10_append_95 (lv_at hl 0 rfl) ?_
                                        refine lv_if_lt (tgt := 132) hx hb dX10_append_97 (by decide) (fun h => absurd h (by decide)) (fun _ => ?_)
                                        refine lv_aload_n hx hb dX10_append_100 rfl (lv_at hl 2 rfl) ?_
                                        refine g_get hx hb hg hown hK hP 0 rfl rfl inX10 0 (by decide) q606 rfl dX10_append_101 ?_
                                        refine lv_aload_n hx hb dX10_append_104 rfl (lv_at hl 2 rfl) ?_
                                        refine g_get hx hb hg hown hK hP 0 rfl rfl inX10 1 (by decide) q607 rfl dX10_append_105 ?_
                                        refine lv_lload_n hx hb dX10_append_108 rfl (lv_at hl 3 rfl) ?_
                                        refine lv_iload hx hb dX10_append_109 (lv_at hl 0 rfl) ?_
                                        refine g_Si (n := 2) (As := [.long v, .int 1]) (rest := [.int 6, .ref (ad 0)]) (wr := [(h0, .inr (10, [.ref (ad 0), .int 6, .int (-1), .int (-1), .ref (ad 1), .ref (ad 2), .ref (ad 3), .ref (ad 4), .ref (ad 5), .ref (ad 6), .ref (ad 7), .ref (ad 8)])), (ad 0, .inl (dA 2, 480, .inl f318))]) hx hb hml hg hown hK hP hD hS hA (c_X10_byteOf l D dA v 1 _) [] [0, 1] rfl (by decide) rfl (by decide) (by decide) q749 q149 q747 q748 (by decide +kernel) ⟨(Nat.le_of_ble_eq_true rfl), (Nat.le_of_ble_eq_true rfl)⟩ rfl hl.1 rfl (Nat.le_of_ble_eq_true rfl) dX10_append_111 ⟨(Nat.le_of_ble_eq_true rfl), (Nat.le_of_ble_eq_true rfl)⟩ (fun r320 u319 H locs w321 hP hD hS => ?_)
                                        refine W.widen (k := 0) (n := 0) (Nat.le_of_ble_eq_true rfl) (Nat.le_of_ble_eq_true rfl) ?_
                                        have hP : va_P D vwC [(h0, .inr (10, [.ref (ad 0), .int 6, .int (-1), .int (-1), .ref (ad 1), .ref (ad 2), .ref (ad 3), .ref (ad 4), .ref (ad 5), .ref (ad 6), .ref (ad 7), .ref (ad 8)])), (ad 0, .inl (dA 2, 480, .inl f318))] H := hP
                                        have hD : va_D A [(h0, .inr (10, [.ref (ad 0), .int 6, .int (-1), .int (-1), .ref (ad 1), .ref (ad 2), .ref (ad 3), .ref (ad 4), .ref (ad 5), .ref (ad 6), .ref (ad 7), .ref (ad 8)])), (ad 0, .inl (dA 2, 480, .inl f318))] := hD
                                        obtain rfl : r320 = bC v 1 := w321
                                        refine lv_i2c (v := (((bC v 1).toUInt32 % 65536).toInt32)) hx hb dX10_append_114 rfl ?_
                                        refine va_cast hx hb hK hP hD hS 1 2 rfl rfl (by unfold vp_in; decide) dX10_append_115 (fun H locs hP hD hS => ?_)
                                        have hP : va_P D vwC [(h0, .inr (10, [.ref (ad 0), .int 6, .int (-1), .int (-1), .ref (ad 1), .ref (ad 2), .ref (ad 3), .ref (ad 4), .ref (ad 5), .ref (ad 6), .ref (ad 7), .ref (ad 8)])), (ad 0, .inl (dA 2, 480, .inl (upd f318 (6 : Int32).toNatClampNeg (vp_nar .char (((bC v 1).toUInt32 % 65536).toInt32)))))] H := hP
                                        have hD : va_D A [(h0, .inr (10, [.ref (ad 0), .int 6, .int (-1), .int (-1), .ref (ad 1), .ref (ad 2), .ref (ad 3), .ref (ad 4), .ref (ad 5), .ref (ad 6), .ref (ad 7), .ref (ad 8)])), (ad 0, .inl (dA 2, 480, .inl (upd f318 (6 : Int32).toNatClampNeg (vp_nar .char (((bC v 1).toUInt32 % 65536).toInt32)))))] := hD
                                        generalize (upd f318 (6 : Int32).toNatClampNeg (vp_nar .char (((bC v 1).toUInt32 % 65536).toInt32))) = f322 at hP hD
                                        refine lv_aload_n hx hb dX10_append_116 rfl (lv_at hl 2 rfl) ?_
                                        refine lv_dup hx hb dX10_append_117 rfl ?_
                                        refine g_get hx hb hg hown hK hP 0 rfl rfl inX10 1 (by decide) q607 rfl dX10_append_118 ?_
                                        refine lv_iconst (v := 1) hx hb dX10_append_121 (by decide) ?_
                                        refine lv_iadd hx hb dX10_append_122 ?_
                                        refine g_nrm (y := 7) (by decide) ?_
                                        refine g_put (w' := [(h0, .inr (10, [.ref (ad 0), .int 7, .int (-1), .int (-1), .ref (ad 1), .ref (ad 2), .ref (ad 3), .ref (ad 4), .ref (ad 5), .ref (ad 6), .ref (ad 7), .ref (ad 8)])), (ad 0, .inl (dA 2, 480, .inl f322))]) hx hb hg hown hK hP hD hS 0 rfl rfl inX10 tyX10_ok nmX10 1 (by decide) q607 rfl rfl rfl (Nat.le_of_ble_eq_true rfl) rfl dX10_append_123 (fun H locs hP hD hS => ?_)
                                        refine lv_iinc (v := 0) (lv' := [(4, .int 0), (5, .int (bC v 7)), (0, .ref h0), (1, .long v), (3, .int 8)]) hx hb dX10_append_126 hl (k := 0) rfl (by decide) (by decide) rfl (fun ls hl => ?_)
                                        refine lv_goto (tgt := 95) hx hb dX10_append_129 (by decide) ?_
                                        refine lv_iload hx hb dX10_append_95 (lv_at hl 0 rfl) ?_
                                        refine lv_if_lt (tgt := 132) hx hb dX10_append_97 (by decide) (fun h => absurd h (by decide)) (fun _ => ?_)
                                        refine lv_aload_n hx hb dX10_append_100 rfl (lv_at hl 2 rfl) ?_
                                        refine g_get hx hb hg hown hK hP 0 rfl rfl inX10 0 (by decide) q606 rfl dX10_append_101 ?_
                                        refine lv_aload_n hx hb dX10_append_104 rfl (lv_at hl 2 rfl) ?_
                                        refine g_get hx hb hg hown hK hP 0 rfl rfl inX10 1 (by decide) q607 rfl dX10_append_105 ?_
                                        refine lv_lload_n hx hb dX10_append_108 rfl (lv_at hl 3 rfl) ?_
                                        refine lv_iload hx hb dX10_append_109 (lv_at hl 0 rfl) ?_
                                        refine g_Si (n := 2) (As := [.long v, .int 0]) (rest := [.int 7, .ref (ad 0)]) (wr := [(h0, .inr (10, [.ref (ad 0), .int 7, .int (-1), .int (-1), .ref (ad 1), .ref (ad 2), .ref (ad 3), .ref (ad 4), .ref (ad 5), .ref (ad 6), .ref (ad 7), .ref (ad 8)])), (ad 0, .inl (dA 2, 480, .inl f322))]) hx hb hml hg hown hK hP hD hS hA (c_X10_byteOf l D dA v 0 _) [] [0, 1] rfl (by decide) rfl (by decide) (by decide) q749 q149 q747 q748 (by decide +kernel) ⟨(Nat.le_of_ble_eq_true rfl), (Nat.le_of_ble_eq_true rfl)⟩ rfl hl.1 rfl (Nat.le_of_ble_eq_true rfl) dX10_append_111 ⟨(Nat.le_of_ble_eq_true rfl), (Nat.le_of_ble_eq_true rfl)⟩ (fun r324 u323 H locs w325 hP hD hS => ?_)
                                        refine W.widen (k := 0) (n := 0) (Nat.le_of_ble_eq_true rfl) (Nat.le_of_ble_eq_true rfl) ?_
                                        have hP : va_P D vwC [(h0, .inr (10, [.ref (ad 0), .int 7, .int (-1), .int (-1), .ref (ad 1), .ref (ad 2), .ref (ad 3), .ref (ad 4), .ref (ad 5), .ref (ad 6), .ref (ad 7), .ref (ad 8)])), (ad 0, .inl (dA 2, 480, .inl f322))] H := hP
                                        have hD : va_D A [(h0, .inr (10, [.ref (ad 0), .int 7, .int (-1), .int (-1), .ref (ad 1), .ref (ad 2), .ref (ad 3), .ref (ad 4), .ref (ad 5), .ref (ad 6), .ref (ad 7), .ref (ad 8)])), (ad 0, .inl (dA 2, 480, .inl f322))] := hD
                                        obtain rfl : r324 = bC v 0 := w325
                                        refine lv_i2c (v := (((bC v 0).toUInt32 % 65536).toInt32)) hx hb dX10_append_114 rfl ?_
                                        refine va_cast hx hb hK hP hD hS 1 2 rfl rfl (by unfold vp_in; decide) dX10_append_115 (fun H locs hP hD hS => ?_)
                                        have hP : va_P D vwC [(h0, .inr (10, [.ref (ad 0), .int 7, .int (-1), .int (-1), .ref (ad 1), .ref (ad 2), .ref (ad 3), .ref (ad 4), .ref (ad 5), .ref (ad 6), .ref (ad 7), .ref (ad 8)])), (ad 0, .inl (dA 2, 480, .inl (upd f322 (7 : Int32).toNatClampNeg (vp_nar .char (((bC v 0).toUInt32 % 65536).toInt32)))))] H := hP
                                        have hD : va_D A [(h0, .inr (10, [.ref (ad 0), .int 7, .int (-1), .int (-1), .ref (ad 1), .ref (ad 2), .ref (ad 3), .ref (ad 4), .ref (ad 5), .ref (ad 6), .ref (ad 7), .ref (ad 8)])), (ad 0, .inl (dA 2, 480, .inl (upd f322 (7 : Int32).toNatClampNeg (vp_nar .char (((bC v 0).toUInt32 % 65536).toInt32)))))] := hD
                                        generalize (upd f322 (7 : Int32).toNatClampNeg (vp_nar .char (((bC v 0).toUInt32 % 65536).toInt32))) = f326 at hP hD
                                        refine lv_aload_n hx hb dX10_append_116 rfl (lv_at hl 2 rfl) ?_
                                        refine lv_dup hx hb dX10_append_117 rfl ?_
                                        refine g_get hx hb hg hown hK hP 0 rfl rfl inX10 1 (by decide) q607 rfl dX10_append_118 ?_
                                        refine lv_iconst (v := 1) hx hb dX10_append_121 (by decide) ?_
                                        refine lv_iadd hx hb dX10_append_122 ?_
                                        refine g_nrm (y := 8) (by decide) ?_
                                        refine g_put (w' := [(h0, .inr (10, [.ref (ad 0), .int 8, .int (-1), .int (-1), .ref (ad 1), .ref (ad 2), .ref (ad 3), .ref (ad 4), .ref (ad 5), .ref (ad 6), .ref (ad 7), .ref (ad 8)])), (ad 0, .inl (dA 2, 480, .inl f326))]) hx hb hg hown hK hP hD hS 0 rfl rfl inX10 tyX10_ok nmX10 1 (by decide) q607 rfl rfl rfl (Nat.le_of_ble_eq_true rfl) rfl dX10_append_123 (fun H locs hP hD hS => ?_)
                                        refine lv_iinc (v := (-1)) (lv' := [(4, .int (-1)), (5, .int (bC v 7)), (0, .ref h0), (1, .long v), (3, .int 8)]) hx hb dX10_append_126 hl (k := 0) rfl (by decide) (by decide) rfl (fun ls hl => ?_)
                                        refine lv_goto (tgt := 95) hx hb dX10_append_129 (by decide) ?_
                                        refine lv_iload hx hb dX10_append_95 (lv_at hl 0 rfl) ?_
                                        refine lv_if_lt (tgt := 132) hx hb dX10_append_97 (by decide) (fun _ => ?_) (fun h => absurd (by decide) h)
                                        refine lv_aload_n hx hb dX10_append_132 rfl (lv_at hl 2 rfl) ?_
                                        refine g_get hx hb hg hown hK hP 0 rfl rfl inX10 1 (by decide) q607 rfl dX10_append_133 ?_
                                        exact vx_ret (g_iret hx hb hr rfl hlocks hK () (hP.sub [] rfl) (hD.sub [] rfl rfl) hS ⟨rfl, by unfold gIn; decide, by rw [apI_8]; exact ⟨⟨k258, k259⟩, ⟨k263, k264⟩, ⟨k268, k269⟩, ⟨k273, k274⟩, ⟨k278, k279⟩, ⟨k283, k284⟩, ⟨k288, k289⟩, ⟨k293, k294⟩, trivial⟩⟩ (Nat.le_of_ble_eq_true rfl) (Nat.le_of_ble_eq_true rfl) dX10_append_136)
                                      · exact g_thr (cls := xIAE) (is := 101) (text := "a byte is not 32 .. 126") hx hb hg htr hown (by decide) q731 q167 (by decide +kernel) atIAE (by decide +kernel) hZ hS hml hl.1 hnt hlocks dX10_append_52 dX10_append_55 dX10_append_56 dX10_append_58 dX10_append_61 (Nat.le_of_ble_eq_true rfl) (Nat.le_of_ble_eq_true rfl) (Nat.le_of_ble_eq_true rfl) (Nat.le_of_ble_eq_true rfl) (Nat.le_of_ble_eq_true rfl) (Nat.le_of_ble_eq_true rfl) ⟨rfl, (fun h => by have h := h.2; rw [apI_8] at h; exact k294 h.2.2.2.2.2.2.2.1.2)⟩
                                  · exact g_thr (cls := xIAE) (is := 101) (text := "a byte is not 32 .. 126") hx hb hg htr hown (by decide) q731 q167 (by decide +kernel) atIAE (by decide +kernel) hZ hS hml hl.1 hnt hlocks dX10_append_52 dX10_append_55 dX10_append_56 dX10_append_58 dX10_append_61 (Nat.le_of_ble_eq_true rfl) (Nat.le_of_ble_eq_true rfl) (Nat.le_of_ble_eq_true rfl) (Nat.le_of_ble_eq_true rfl) (Nat.le_of_ble_eq_true rfl) (Nat.le_of_ble_eq_true rfl) ⟨rfl, (fun h => by have h := h.2; rw [apI_8] at h; exact k289 h.2.2.2.2.2.2.1.2)⟩
                              · exact g_thr (cls := xIAE) (is := 101) (text := "a byte is not 32 .. 126") hx hb hg htr hown (by decide) q731 q167 (by decide +kernel) atIAE (by decide +kernel) hZ hS hml hl.1 hnt hlocks dX10_append_52 dX10_append_55 dX10_append_56 dX10_append_58 dX10_append_61 (Nat.le_of_ble_eq_true rfl) (Nat.le_of_ble_eq_true rfl) (Nat.le_of_ble_eq_true rfl) (Nat.le_of_ble_eq_true rfl) (Nat.le_of_ble_eq_true rfl) (Nat.le_of_ble_eq_true rfl) ⟨rfl, (fun h => by have h := h.2; rw [apI_8] at h; exact k284 h.2.2.2.2.2.1.2)⟩
                          · exact g_thr (cls := xIAE) (is := 101) (text := "a byte is not 32 .. 126") hx hb hg htr hown (by decide) q731 q167 (by decide +kernel) atIAE (by decide +kernel) hZ hS hml hl.1 hnt hlocks dX10_append_52 dX10_append_55 dX10_append_56 dX10_append_58 dX10_append_61 (Nat.le_of_ble_eq_true rfl) (Nat.le_of_ble_eq_true rfl) (Nat.le_of_ble_eq_true rfl) (Nat.le_of_ble_eq_true rfl) (Nat.le_of_ble_eq_true rfl) (Nat.le_of_ble_eq_true rfl) ⟨rfl, (fun h => by have h := h.2; rw [apI_8] at h; exact k279 h.2.2.2.2.1.2)⟩
                      · exact g_thr (cls := xIAE) (is := 101) (text := "a byte is not 32 .. 126") hx hb hg htr hown (by decide) q731 q167 (by decide +kernel) atIAE (by decide +kernel) hZ hS hml hl.1 hnt hlocks dX10_append_52 dX10_append_55 dX10_append_56 dX10_append_58 dX10_append_61 (Nat.le_of_ble_eq_true rfl) (Nat.le_of_ble_eq_true rfl) (Nat.le_of_ble_eq_true rfl) (Nat.le_of_ble_eq_true rfl) (Nat.le_of_ble_eq_true rfl) (Nat.le_of_ble_eq_true rfl) ⟨rfl, (fun h => by have h := h.2; rw [apI_8] at h; exact k274 h.2.2.2.1.2)⟩
                  · exact g_thr (cls := xIAE) (is := 101) (text := "a byte is not 32 .. 126") hx hb hg htr hown (by decide) q731 q167 (by decide +kernel) atIAE (by decide +kernel) hZ hS hml hl.1 hnt hlocks dX10_append_52 dX10_append_55 dX10_append_56 dX10_append_58 dX10_append_61 (Nat.le_of_ble_eq_true rfl) (Nat.le_of_ble_eq_true rfl) (Nat.le_of_ble_eq_true rfl) (Nat.le_of_ble_eq_true rfl) (Nat.le_of_ble_eq_true rfl) (Nat.le_of_ble_eq_true rfl) ⟨rfl, (fun h => by have h := h.2; rw [apI_8] at h; exact k269 h.2.2.1.2)⟩
              · exact g_thr (cls := xIAE) (is := 101) (text := "a byte is not 32 .. 126") hx hb hg htr hown (by decide) q731 q167 (by decide +kernel) atIAE (by decide +kernel) hZ hS hml hl.1 hnt hlocks dX10_append_52 dX10_append_55 dX10_append_56 dX10_append_58 dX10_append_61 (Nat.le_of_ble_eq_true rfl) (Nat.le_of_ble_eq_true rfl) (Nat.le_of_ble_eq_true rfl) (Nat.le_of_ble_eq_true rfl) (Nat.le_of_ble_eq_true rfl) (Nat.le_of_ble_eq_true rfl) ⟨rfl, (fun h => by have h := h.2; rw [apI_8] at h; exact k264 h.2.1.2)⟩
          · exact g_thr (cls := xIAE) (is := 101) (text := "a byte is not 32 .. 126") hx hb hg htr hown (by decide) q731 q167 (by decide +kernel) atIAE (by decide +kernel) hZ hS hml hl.1 hnt hlocks dX10_append_52 dX10_append_55 dX10_append_56 dX10_append_58 dX10_append_61 (Nat.le_of_ble_eq_true rfl) (Nat.le_of_ble_eq_true rfl) (Nat.le_of_ble_eq_true rfl) (Nat.le_of_ble_eq_true rfl) (Nat.le_of_ble_eq_true rfl) (Nat.le_of_ble_eq_true rfl) ⟨rfl, (fun h => by have h := h.2; rw [apI_8] at h; exact k259 h.1.2)⟩
    · have bk1 := gb_nlt_r (k := 1) (by decide) k1
      have bk2 := gb_nle_r (k := 8) (by decide) k2
      exact g_thr (cls := xIAE) (is := 92) (text := "n is not 1 .. 8") hx hb hg htr hown (by decide) q731 q167 (by decide +kernel) atIAE (by decide +kernel) hZ hS hml hl.1 hnt hlocks dX10_append_11 dX10_append_14 dX10_append_15 dX10_append_17 dX10_append_20 (Nat.le_of_ble_eq_true rfl) (Nat.le_of_ble_eq_true rfl) (Nat.le_of_ble_eq_true rfl) (Nat.le_of_ble_eq_true rfl) (Nat.le_of_ble_eq_true rfl) (Nat.le_of_ble_eq_true rfl) ⟨rfl, (fun h => absurd h.1 (by unfold gIn; omega))⟩
