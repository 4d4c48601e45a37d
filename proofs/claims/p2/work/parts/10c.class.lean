theorem q154 : Cond.initialized RX7 ∈ gw := gw_in (i := 154) (by decide +kernel) rfl
theorem q155 : Cond.initialized RX2 ∈ gw := gw_in (i := 155) (by decide +kernel) rfl
theorem q307 : Cond.fieldLink RX7 13 "SegmentBench$Operand" "kind" "I" ∈ gw := gw_in (i := 307) (by decide +kernel) rfl
theorem q310 : Cond.fieldLink RX7 17 "SegmentBench$Operand" "code" "I" ∈ gw := gw_in (i := 310) (by decide +kernel) rfl
theorem q313 : Cond.fieldLink RX7 20 "SegmentBench$Operand" "numbe\x72" "I" ∈ gw := gw_in (i := 313) (by decide +kernel) rfl
theorem q316 : Cond.fieldLink RX7 23 "SegmentBench$Operand" "name" "I" ∈ gw := gw_in (i := 316) (by decide +kernel) rfl
theorem q319 : Cond.fieldLink RX7 26 "SegmentBench$Operand" "namePlace" "I" ∈ gw := gw_in (i := 319) (by decide +kernel) rfl
theorem q322 : Cond.fieldLink RX7 29 "SegmentBench$Operand" "paragraph" "Z" ∈ gw := gw_in (i := 322) (by decide +kernel) rfl
theorem q325 : Cond.fieldLink RX7 33 "SegmentBench$Operand" "base" "I" ∈ gw := gw_in (i := 325) (by decide +kernel) rfl
theorem q327 : Cond.fieldLink RX7 36 "SegmentBench$Operand" "index" "I" ∈ gw := gw_in (i := 327) (by decide +kernel) rfl
theorem q436 : Cond.fieldLink RX6 57 "SegmentBench$ObjectModule" "publicName" "[J" ∈ gw := gw_in (i := 436) (by decide +kernel) rfl
theorem q1055 : Cond.methodLink RX7 41 yX7_isBare ∈ gw := gw_in (i := 1055) (by decide +kernel) rfl
theorem q1056 : Cond.instanceMethod yX7_isBare ∈ gw := gw_in (i := 1056) (by decide +kernel) rfl
theorem q1057 : Cond.selects RX7 yX7_isBare yX7_isBare ∈ gw := gw_in (i := 1057) (by decide +kernel) rfl
theorem q1058 : Cond.code yX7_isBare cX7_isBare 1 (some .boolean) ∈ gw := gw_in (i := 1058) (by decide +kernel) rfl
theorem q1059 : Cond.methodLink RX7 45 yX7_signedNumber ∈ gw := gw_in (i := 1059) (by decide +kernel) rfl
theorem q1060 : Cond.instanceMethod yX7_signedNumber ∈ gw := gw_in (i := 1060) (by decide +kernel) rfl
theorem q1061 : Cond.selects RX7 yX7_signedNumber yX7_signedNumber ∈ gw := gw_in (i := 1061) (by decide +kernel) rfl
theorem q1062 : Cond.code yX7_signedNumber cX7_signedNumber 1 (some .int) ∈ gw := gw_in (i := 1062) (by decide +kernel) rfl
theorem q1063 : Cond.methodLink RX7 49 yX7_mode ∈ gw := gw_in (i := 1063) (by decide +kernel) rfl
theorem q1064 : Cond.instanceMethod yX7_mode ∈ gw := gw_in (i := 1064) (by decide +kernel) rfl
theorem q1065 : Cond.selects RX7 yX7_mode yX7_mode ∈ gw := gw_in (i := 1065) (by decide +kernel) rfl
theorem q1066 : Cond.code yX7_mode cX7_mode 1 (some .int) ∈ gw := gw_in (i := 1066) (by decide +kernel) rfl
theorem q1067 : Cond.methodLink RX7 52 yX2_isShort ∈ gw := gw_in (i := 1067) (by decide +kernel) rfl
theorem q1068 : Cond.static yX2_isShort ∈ gw := gw_in (i := 1068) (by decide +kernel) rfl
theorem q1069 : Cond.code yX2_isShort cX2_isShort 1 (some .boolean) ∈ gw := gw_in (i := 1069) (by decide +kernel) rfl
theorem dX2_isShort_0 : decode cX2_isShort 0 = .ok (.iload_n 0, 1) := by decide +kernel
theorem dX2_isShort_1 : decode cX2_isShort 1 = .ok (.bipush (-128), 2) := by decide +kernel
theorem dX2_isShort_3 : decode cX2_isShort 3 = .ok (.if_icmp .lt 13, 3) := by decide +kernel
theorem dX2_isShort_16 : decode cX2_isShort 16 = .ok (.iconst 0, 1) := by decide +kernel
theorem dX2_isShort_17 : decode cX2_isShort 17 = .ok (.ireturn, 1) := by decide +kernel
theorem dX2_isShort_6 : decode cX2_isShort 6 = .ok (.iload_n 0, 1) := by decide +kernel
theorem dX2_isShort_7 : decode cX2_isShort 7 = .ok (.bipush 127, 2) := by decide +kernel
theorem dX2_isShort_9 : decode cX2_isShort 9 = .ok (.if_icmp .gt 7, 3) := by decide +kernel
theorem dX2_isShort_12 : decode cX2_isShort 12 = .ok (.iconst 1, 1) := by decide +kernel
theorem dX2_isShort_13 : decode cX2_isShort 13 = .ok (.goto 4, 3) := by decide +kernel
theorem dX7_clear_0 : decode cX7_clear 0 = .ok (.aload_n 0, 1) := by decide +kernel
theorem dX7_clear_1 : decode cX7_clear 1 = .ok (.iload_n 1, 1) := by decide +kernel
theorem dX7_clear_2 : decode cX7_clear 2 = .ok (.putfield 13, 3) := by decide +kernel
theorem dX7_clear_5 : decode cX7_clear 5 = .ok (.aload_n 0, 1) := by decide +kernel
theorem dX7_clear_6 : decode cX7_clear 6 = .ok (.iconst 0, 1) := by decide +kernel
theorem dX7_clear_7 : decode cX7_clear 7 = .ok (.putfield 17, 3) := by decide +kernel
theorem dX7_clear_10 : decode cX7_clear 10 = .ok (.aload_n 0, 1) := by decide +kernel
theorem dX7_clear_11 : decode cX7_clear 11 = .ok (.iconst 0, 1) := by decide +kernel
theorem dX7_clear_12 : decode cX7_clear 12 = .ok (.putfield 20, 3) := by decide +kernel
theorem dX7_clear_15 : decode cX7_clear 15 = .ok (.aload_n 0, 1) := by decide +kernel
theorem dX7_clear_16 : decode cX7_clear 16 = .ok (.iconst (-1), 1) := by decide +kernel
theorem dX7_clear_17 : decode cX7_clear 17 = .ok (.putfield 23, 3) := by decide +kernel
theorem dX7_clear_20 : decode cX7_clear 20 = .ok (.aload_n 0, 1) := by decide +kernel
theorem dX7_clear_21 : decode cX7_clear 21 = .ok (.iconst (-1), 1) := by decide +kernel
theorem dX7_clear_22 : decode cX7_clear 22 = .ok (.putfield 26, 3) := by decide +kernel
theorem dX7_clear_25 : decode cX7_clear 25 = .ok (.aload_n 0, 1) := by decide +kernel
theorem dX7_clear_26 : decode cX7_clear 26 = .ok (.iconst 0, 1) := by decide +kernel
theorem dX7_clear_27 : decode cX7_clear 27 = .ok (.putfield 29, 3) := by decide +kernel
theorem dX7_clear_30 : decode cX7_clear 30 = .ok (.aload_n 0, 1) := by decide +kernel
theorem dX7_clear_31 : decode cX7_clear 31 = .ok (.iconst 0, 1) := by decide +kernel
theorem dX7_clear_32 : decode cX7_clear 32 = .ok (.putfield 33, 3) := by decide +kernel
theorem dX7_clear_35 : decode cX7_clear 35 = .ok (.aload_n 0, 1) := by decide +kernel
theorem dX7_clear_36 : decode cX7_clear 36 = .ok (.iconst 0, 1) := by decide +kernel
theorem dX7_clear_37 : decode cX7_clear 37 = .ok (.putfield 36, 3) := by decide +kernel
theorem dX7_clear_40 : decode cX7_clear 40 = .ok (.return_, 1) := by decide +kernel
theorem dX7_isBare_0 : decode cX7_isBare 0 = .ok (.aload_n 0, 1) := by decide +kernel
theorem dX7_isBare_1 : decode cX7_isBare 1 = .ok (.getfield 33, 3) := by decide +kernel
theorem dX7_isBare_4 : decode cX7_isBare 4 = .ok (.ifCond .ne 14, 3) := by decide +kernel
theorem dX7_isBare_18 : decode cX7_isBare 18 = .ok (.iconst 0, 1) := by decide +kernel
theorem dX7_isBare_19 : decode cX7_isBare 19 = .ok (.ireturn, 1) := by decide +kernel
theorem dX7_isBare_7 : decode cX7_isBare 7 = .ok (.aload_n 0, 1) := by decide +kernel
theorem dX7_isBare_8 : decode cX7_isBare 8 = .ok (.getfield 36, 3) := by decide +kernel
theorem dX7_isBare_11 : decode cX7_isBare 11 = .ok (.ifCond .ne 7, 3) := by decide +kernel
theorem dX7_isBare_14 : decode cX7_isBare 14 = .ok (.iconst 1, 1) := by decide +kernel
theorem dX7_isBare_15 : decode cX7_isBare 15 = .ok (.goto 4, 3) := by decide +kernel
theorem dX7_signedNumber_0 : decode cX7_signedNumber 0 = .ok (.aload_n 0, 1) := by decide +kernel
theorem dX7_signedNumber_1 : decode cX7_signedNumber 1 = .ok (.getfield 20, 3) := by decide +kernel
theorem dX7_signedNumber_4 : decode cX7_signedNumber 4 = .ok (.i2s, 1) := by decide +kernel
theorem dX7_signedNumber_5 : decode cX7_signedNumber 5 = .ok (.ireturn, 1) := by decide +kernel
theorem dX7_mode_0 : decode cX7_mode 0 = .ok (.aload_n 0, 1) := by decide +kernel
theorem dX7_mode_1 : decode cX7_mode 1 = .ok (.getfield 33, 3) := by decide +kernel
theorem dX7_mode_4 : decode cX7_mode 4 = .ok (.ifCond .ne 22, 3) := by decide +kernel
theorem dX7_mode_26 : decode cX7_mode 26 = .ok (.aload_n 0, 1) := by decide +kernel
theorem dX7_mode_27 : decode cX7_mode 27 = .ok (.getfield 36, 3) := by decide +kernel
theorem dX7_mode_30 : decode cX7_mode 30 = .ok (.ifCond .ne 19, 3) := by decide +kernel
theorem dX7_mode_49 : decode cX7_mode 49 = .ok (.aload_n 0, 1) := by decide +kernel
theorem dX7_mode_50 : decode cX7_mode 50 = .ok (.getfield 33, 3) := by decide +kernel
theorem dX7_mode_53 : decode cX7_mode 53 = .ok (.iconst 3, 1) := by decide +kernel
theorem dX7_mode_54 : decode cX7_mode 54 = .ok (.if_icmp .ne 7, 3) := by decide +kernel
theorem dX7_mode_61 : decode cX7_mode 61 = .ok (.iconst 2, 1) := by decide +kernel
theorem dX7_mode_62 : decode cX7_mode 62 = .ok (.aload_n 0, 1) := by decide +kernel
theorem dX7_mode_63 : decode cX7_mode 63 = .ok (.getfield 36, 3) := by decide +kernel
theorem dX7_mode_66 : decode cX7_mode 66 = .ok (.iadd, 1) := by decide +kernel
theorem dX7_mode_67 : decode cX7_mode 67 = .ok (.bipush 6, 2) := by decide +kernel
theorem dX7_mode_69 : decode cX7_mode 69 = .ok (.isub, 1) := by decide +kernel
theorem dX7_mode_70 : decode cX7_mode 70 = .ok (.ireturn, 1) := by decide +kernel
theorem dX7_mode_57 : decode cX7_mode 57 = .ok (.iconst 0, 1) := by decide +kernel
theorem dX7_mode_58 : decode cX7_mode 58 = .ok (.goto 4, 3) := by decide +kernel
theorem dX7_mode_33 : decode cX7_mode 33 = .ok (.aload_n 0, 1) := by decide +kernel
theorem dX7_mode_34 : decode cX7_mode 34 = .ok (.getfield 33, 3) := by decide +kernel
theorem dX7_mode_37 : decode cX7_mode 37 = .ok (.iconst 3, 1) := by decide +kernel
theorem dX7_mode_38 : decode cX7_mode 38 = .ok (.if_icmp .ne 8, 3) := by decide +kernel
theorem dX7_mode_46 : decode cX7_mode 46 = .ok (.bipush 6, 2) := by decide +kernel
theorem dX7_mode_48 : decode cX7_mode 48 = .ok (.ireturn, 1) := by decide +kernel
theorem dX7_mode_41 : decode cX7_mode 41 = .ok (.bipush 7, 2) := by decide +kernel
theorem dX7_mode_43 : decode cX7_mode 43 = .ok (.goto 5, 3) := by decide +kernel
theorem dX7_mode_7 : decode cX7_mode 7 = .ok (.aload_n 0, 1) := by decide +kernel
theorem dX7_mode_8 : decode cX7_mode 8 = .ok (.getfield 36, 3) := by decide +kernel
theorem dX7_mode_11 : decode cX7_mode 11 = .ok (.ifCond .ne 8, 3) := by decide +kernel
theorem dX7_mode_19 : decode cX7_mode 19 = .ok (.aload_n 0, 1) := by decide +kernel
theorem dX7_mode_20 : decode cX7_mode 20 = .ok (.getfield 36, 3) := by decide +kernel
theorem dX7_mode_23 : decode cX7_mode 23 = .ok (.iconst 2, 1) := by decide +kernel
theorem dX7_mode_24 : decode cX7_mode 24 = .ok (.isub, 1) := by decide +kernel
theorem dX7_mode_25 : decode cX7_mode 25 = .ok (.ireturn, 1) := by decide +kernel
theorem dX7_mode_14 : decode cX7_mode 14 = .ok (.bipush 6, 2) := by decide +kernel
theorem dX7_mode_16 : decode cX7_mode 16 = .ok (.goto 9, 3) := by decide +kernel
theorem dX7_displacementSize_0 : decode cX7_displacementSize 0 = .ok (.aload_n 0, 1) := by decide +kernel
theorem dX7_displacementSize_1 : decode cX7_displacementSize 1 = .ok (.invokevirtual 41, 3) := by decide +kernel
theorem dX7_displacementSize_4 : decode cX7_displacementSize 4 = .ok (.ifCond .ne 10, 3) := by decide +kernel
theorem dX7_displacementSize_14 : decode cX7_displacementSize 14 = .ok (.iconst 2, 1) := by decide +kernel
theorem dX7_displacementSize_15 : decode cX7_displacementSize 15 = .ok (.ireturn, 1) := by decide +kernel
theorem dX7_displacementSize_7 : decode cX7_displacementSize 7 = .ok (.aload_n 0, 1) := by decide +kernel
theorem dX7_displacementSize_8 : decode cX7_displacementSize 8 = .ok (.getfield 23, 3) := by decide +kernel
theorem dX7_displacementSize_11 : decode cX7_displacementSize 11 = .ok (.ifCond .lt 5, 3) := by decide +kernel
theorem dX7_displacementSize_16 : decode cX7_displacementSize 16 = .ok (.aload_n 0, 1) := by decide +kernel
theorem dX7_displacementSize_17 : decode cX7_displacementSize 17 = .ok (.invokevirtual 45, 3) := by decide +kernel
theorem dX7_displacementSize_20 : decode cX7_displacementSize 20 = .ok (.istore_n 1, 1) := by decide +kernel
theorem dX7_displacementSize_21 : decode cX7_displacementSize 21 = .ok (.iload_n 1, 1) := by decide +kernel
theorem dX7_displacementSize_22 : decode cX7_displacementSize 22 = .ok (.ifCond .ne 14, 3) := by decide +kernel
theorem dX7_displacementSize_36 : decode cX7_displacementSize 36 = .ok (.iload_n 1, 1) := by decide +kernel
theorem dX7_displacementSize_37 : decode cX7_displacementSize 37 = .ok (.invokestatic 52, 3) := by decide +kernel
theorem dX7_displacementSize_40 : decode cX7_displacementSize 40 = .ok (.ifCond .eq 7, 3) := by decide +kernel
theorem dX7_displacementSize_47 : decode cX7_displacementSize 47 = .ok (.iconst 2, 1) := by decide +kernel
theorem dX7_displacementSize_48 : decode cX7_displacementSize 48 = .ok (.ireturn, 1) := by decide +kernel
theorem dX7_displacementSize_43 : decode cX7_displacementSize 43 = .ok (.iconst 1, 1) := by decide +kernel
theorem dX7_displacementSize_44 : decode cX7_displacementSize 44 = .ok (.goto 4, 3) := by decide +kernel
theorem dX7_displacementSize_25 : decode cX7_displacementSize 25 = .ok (.aload_n 0, 1) := by decide +kernel
theorem dX7_displacementSize_26 : decode cX7_displacementSize 26 = .ok (.invokevirtual 49, 3) := by decide +kernel
theorem dX7_displacementSize_29 : decode cX7_displacementSize 29 = .ok (.bipush 6, 2) := by decide +kernel
theorem dX7_displacementSize_31 : decode cX7_displacementSize 31 = .ok (.if_icmp .eq 5, 3) := by decide +kernel
theorem dX7_displacementSize_34 : decode cX7_displacementSize 34 = .ok (.iconst 0, 1) := by decide +kernel
theorem dX7_displacementSize_35 : decode cX7_displacementSize 35 = .ok (.ireturn, 1) := by decide +kernel
theorem dX0_bytesOf_0 : decode cX0_bytesOf 0 = .ok (.aload_n 0, 1) := by decide +kernel
theorem dX0_bytesOf_1 : decode cX0_bytesOf 1 = .ok (.getfield 11, 3) := by decide +kernel
theorem dX0_bytesOf_4 : decode cX0_bytesOf 4 = .ok (.iload_n 1, 1) := by decide +kernel
theorem dX0_bytesOf_5 : decode cX0_bytesOf 5 = .ok (.iaload, 1) := by decide +kernel
theorem dX0_bytesOf_6 : decode cX0_bytesOf 6 = .ok (.tableswitch 65 4 12 #[50, 52, 59, 59, 59, 52, 59, 61, 63], 50) := by decide +kernel
theorem dX0_bytesOf_56 : decode cX0_bytesOf 56 = .ok (.iconst 1, 1) := by decide +kernel
theorem dX0_bytesOf_57 : decode cX0_bytesOf 57 = .ok (.ireturn, 1) := by decide +kernel
theorem dX0_bytesOf_58 : decode cX0_bytesOf 58 = .ok (.aload_n 0, 1) := by decide +kernel
theorem dX0_bytesOf_59 : decode cX0_bytesOf 59 = .ok (.getfield 15, 3) := by decide +kernel
theorem dX0_bytesOf_62 : decode cX0_bytesOf 62 = .ok (.iload_n 1, 1) := by decide +kernel
theorem dX0_bytesOf_63 : decode cX0_bytesOf 63 = .ok (.iaload, 1) := by decide +kernel
theorem dX0_bytesOf_64 : decode cX0_bytesOf 64 = .ok (.ireturn, 1) := by decide +kernel
theorem dX0_bytesOf_65 : decode cX0_bytesOf 65 = .ok (.iconst 2, 1) := by decide +kernel
theorem dX0_bytesOf_66 : decode cX0_bytesOf 66 = .ok (.ireturn, 1) := by decide +kernel
theorem dX0_bytesOf_67 : decode cX0_bytesOf 67 = .ok (.iconst 3, 1) := by decide +kernel
theorem dX0_bytesOf_68 : decode cX0_bytesOf 68 = .ok (.ireturn, 1) := by decide +kernel
theorem dX0_bytesOf_69 : decode cX0_bytesOf 69 = .ok (.iconst 5, 1) := by decide +kernel
theorem dX0_bytesOf_70 : decode cX0_bytesOf 70 = .ok (.ireturn, 1) := by decide +kernel
theorem dX0_bytesOf_71 : decode cX0_bytesOf 71 = .ok (.iconst 0, 1) := by decide +kernel
theorem dX0_bytesOf_72 : decode cX0_bytesOf 72 = .ok (.ireturn, 1) := by decide +kernel
theorem dX6_publicNumber_0 : decode cX6_publicNumber 0 = .ok (.iconst 0, 1) := by decide +kernel
theorem dX6_publicNumber_1 : decode cX6_publicNumber 1 = .ok (.istore_n 3, 1) := by decide +kernel
theorem dX6_publicNumber_2 : decode cX6_publicNumber 2 = .ok (.iload_n 3, 1) := by decide +kernel
theorem dX6_publicNumber_3 : decode cX6_publicNumber 3 = .ok (.aload_n 0, 1) := by decide +kernel
theorem dX6_publicNumber_4 : decode cX6_publicNumber 4 = .ok (.getfield 54, 3) := by decide +kernel
theorem dX6_publicNumber_7 : decode cX6_publicNumber 7 = .ok (.if_icmp .ge 22, 3) := by decide +kernel
theorem dX6_publicNumber_29 : decode cX6_publicNumber 29 = .ok (.iconst (-1), 1) := by decide +kernel
theorem dX6_publicNumber_30 : decode cX6_publicNumber 30 = .ok (.ireturn, 1) := by decide +kernel
theorem dX6_publicNumber_10 : decode cX6_publicNumber 10 = .ok (.aload_n 0, 1) := by decide +kernel
theorem dX6_publicNumber_11 : decode cX6_publicNumber 11 = .ok (.getfield 57, 3) := by decide +kernel
theorem dX6_publicNumber_14 : decode cX6_publicNumber 14 = .ok (.iload_n 3, 1) := by decide +kernel
theorem dX6_publicNumber_15 : decode cX6_publicNumber 15 = .ok (.laload, 1) := by decide +kernel
theorem dX6_publicNumber_16 : decode cX6_publicNumber 16 = .ok (.lload_n 1, 1) := by decide +kernel
theorem dX6_publicNumber_17 : decode cX6_publicNumber 17 = .ok (.lcmp, 1) := by decide +kernel
theorem dX6_publicNumber_18 : decode cX6_publicNumber 18 = .ok (.ifCond .ne 5, 3) := by decide +kernel
theorem dX6_publicNumber_23 : decode cX6_publicNumber 23 = .ok (.iinc 3 1, 3) := by decide +kernel
theorem dX6_publicNumber_26 : decode cX6_publicNumber 26 = .ok (.goto (-24), 3) := by decide +kernel
theorem dX6_publicNumber_21 : decode cX6_publicNumber 21 = .ok (.iload_n 3, 1) := by decide +kernel
theorem dX6_publicNumber_22 : decode cX6_publicNumber 22 = .ok (.ireturn, 1) := by decide +kernel
set_option maxHeartbeats 4000000 in
set_option maxRecDepth 100000 in
theorem s_X2_isShort (l : Launch) (D : va_G) (dA : Nat → ClassId) (a0 : Int32) (sz : Nat) : Met l yX2_isShort (gws yX2_isShort cX2_isShort 1 (some .boolean)) (gR 1 0 0) (gPre D dA [.int a0] [] sz) (va_Qi (fun (r : Int32) (u : Unit) => (0 ≤ r.toInt ∧ r.toInt ≤ 1)) (gAt D dA (va_A [] sz) (fun u : Unit => [])) (va_A [] sz)) 0 0 (va_A [] sz) := by
  refine Met.ofW (cc := cX2_isShort) (maxL := 1) (ret := (some .boolean)) (by decide) rfl ?_
  intro p e s m args below meth c s₁ B hml hv
  obtain ⟨rfl, hsz, hP, hK, hD0⟩ := hv
  have hx := B.exec
  have hb := B.bytes
  have hr := B.returns
  have hts := atoms_spec (ws := gws yX2_isShort cX2_isShort 1 (some .boolean)) B.pre
  have hg : ∀ w ∈ gw, w.before _ s = true := fun w h => hts w (List.mem_cons_of_mem _ h)
  have hown : s.vm.findClass RX2 = some m.cls := findClass_of_methodNamed B.named
  have hlocks := B.notSynchronized
  subst hsz
  have hD := hD0.self (sz := s.heap.size)
  generalize hAe : va_A [] s.heap.size = A at hD ⊢
  have hA : ∀ q : Nat, s.heap.size ≤ q → A q := fun q h => by rw [← hAe]; exact Or.inr h
  have hS : va_S A s.heap s.heap [] := va_S.rf
  have hP : va_P D vwC [] s.heap := hP
  have hl := lv_entry ([.int a0]) (n := 1) (Nat.le_of_ble_eq_true rfl)
  rw [lg_entry_eq]
  generalize (lg_sl ([.int a0]) ++ List.replicate (1 - (lg_sl ([.int a0])).length) Slot.unset).toArray = ls at hl ⊢
  have hl : lv_has ls 1 [(0, .int a0)] := hl
  refine lv_iload_n hx hb dX2_isShort_0 rfl (lv_at hl 0 rfl) ?_
  refine lv_bipush (v := (-128)) hx hb dX2_isShort_1 (by decide) ?_
  refine lv_icmp_lt (tgt := 16) hx hb dX2_isShort_3 (by decide) (fun k1 => ?_) (fun k1 => ?_)
  · have g2 : a0.toInt < (-128) := gi_lt (rfl : a0.toInt = a0.toInt) (by decide : (-128 : Int32).toInt = (-128)) k1
    refine lv_iconst (v := 0) hx hb dX2_isShort_16 (by decide) ?_
    exact g_iret hx hb hr rfl hlocks hK () hP hD hS (show 0 ≤ ((0 : Int32)).toInt ∧ ((0 : Int32)).toInt ≤ 1 from by decide) (Nat.le_of_ble_eq_true rfl) (Nat.le_of_ble_eq_true rfl) dX2_isShort_17
  · have g3 : a0.toInt ≥ (-128) := gi_nlt (rfl : a0.toInt = a0.toInt) (by decide : (-128 : Int32).toInt = (-128)) k1
    refine lv_iload_n hx hb dX2_isShort_6 rfl (lv_at hl 0 rfl) ?_
    refine lv_bipush (v := 127) hx hb dX2_isShort_7 (by decide) ?_
    refine lv_icmp_gt (tgt := 16) hx hb dX2_isShort_9 (by decide) (fun k4 => ?_) (fun k4 => ?_)
    · have g5 : 127 < a0.toInt := gi_lt (by decide : (127 : Int32).toInt = 127) (rfl : a0.toInt = a0.toInt) k4
      refine lv_iconst (v := 0) hx hb dX2_isShort_16 (by decide) ?_
      exact g_iret hx hb hr rfl hlocks hK () hP hD hS (show 0 ≤ ((0 : Int32)).toInt ∧ ((0 : Int32)).toInt ≤ 1 from by decide) (Nat.le_of_ble_eq_true rfl) (Nat.le_of_ble_eq_true rfl) dX2_isShort_17
    · have g6 : 127 ≥ a0.toInt := gi_nlt (by decide : (127 : Int32).toInt = 127) (rfl : a0.toInt = a0.toInt) k4
      refine lv_iconst (v := 1) hx hb dX2_isShort_12 (by decide) ?_
      refine lv_goto (tgt := 17) hx hb dX2_isShort_13 (by decide) ?_
      exact g_iret hx hb hr rfl hlocks hK () hP hD hS (show 0 ≤ ((1 : Int32)).toInt ∧ ((1 : Int32)).toInt ≤ 1 from by decide) (Nat.le_of_ble_eq_true rfl) (Nat.le_of_ble_eq_true rfl) dX2_isShort_17
set_option maxHeartbeats 4000000 in
set_option maxRecDepth 100000 in
theorem s_X7_clear (l : Launch) (D : va_G) (dA : Nat → ClassId) (t0 : Nat) (a0 : Int32) (i0 : Int32) (i1 : Int32) (i2 : Int32) (i3 : Int32) (i4 : Int32) (i5 : Int32) (i6 : Int32) (i7 : Int32) (p0 : 0 ≤ i5.toInt ∧ i5.toInt ≤ 1) (sz : Nat) : Met l yX7_clear (gws yX7_clear cX7_clear 2 none) (gR 1 0 0) (gPre D dA [.ref t0, .int a0] [(t0, .inr (7, [.int i0, .int i1, .int i2, .int i3, .int i4, .int i5, .int i6, .int i7]))] sz) (va_Qv (fun u : Int32 × Int32 × Int32 × Int32 × Int32 × Int32 × Int32 × Int32 => (0 ≤ u.2.2.2.2.2.1.toInt ∧ u.2.2.2.2.2.1.toInt ≤ 1)) (gAt D dA (va_A [(t0, .inr (7, [.int i0, .int i1, .int i2, .int i3, .int i4, .int i5, .int i6, .int i7]))] sz) (fun u : Int32 × Int32 × Int32 × Int32 × Int32 × Int32 × Int32 × Int32 => [(t0, .inr (7, [.int u.1, .int u.2.1, .int u.2.2.1, .int u.2.2.2.1, .int u.2.2.2.2.1, .int u.2.2.2.2.2.1, .int u.2.2.2.2.2.2.1, .int u.2.2.2.2.2.2.2]))])) (va_A [(t0, .inr (7, [.int i0, .int i1, .int i2, .int i3, .int i4, .int i5, .int i6, .int i7]))] sz)) 0 0 (va_A [(t0, .inr (7, [.int i0, .int i1, .int i2, .int i3, .int i4, .int i5, .int i6, .int i7]))] sz) := by
  refine Met.ofW (cc := cX7_clear) (maxL := 2) (ret := none) (by decide) rfl ?_
  intro p e s m args below meth c s₁ B hml hv
  obtain ⟨rfl, hsz, hP, hK, hD0⟩ := hv
  have hx := B.exec
  have hb := B.bytes
  have hr := B.returns
  have hts := atoms_spec (ws := gws yX7_clear cX7_clear 2 none) B.pre
  have hg : ∀ w ∈ gw, w.before _ s = true := fun w h => hts w (List.mem_cons_of_mem _ h)
  have hown : s.vm.findClass RX7 = some m.cls := findClass_of_methodNamed B.named
  have hlocks := B.notSynchronized
  subst hsz
  have hD := hD0.self (sz := s.heap.size)
  generalize hAe : va_A [(t0, .inr (7, [.int i0, .int i1, .int i2, .int i3, .int i4, .int i5, .int i6, .int i7]))] s.heap.size = A at hD ⊢
  have hA : ∀ q : Nat, s.heap.size ≤ q → A q := fun q h => by rw [← hAe]; exact Or.inr h
  have hS : va_S A s.heap s.heap [] := va_S.rf
  have hP : va_P D vwC [(t0, .inr (7, [.int i0, .int i1, .int i2, .int i3, .int i4, .int i5, .int i6, .int i7]))] s.heap := hP
  have hl := lv_entry ([.ref t0, .int a0]) (n := 2) (Nat.le_of_ble_eq_true rfl)
  rw [lg_entry_eq]
  generalize (lg_sl ([.ref t0, .int a0]) ++ List.replicate (2 - (lg_sl ([.ref t0, .int a0])).length) Slot.unset).toArray = ls at hl ⊢
  have hl : lv_has ls 2 [(0, .ref t0), (1, .int a0)] := hl
  refine lv_aload_n hx hb dX7_clear_0 rfl (lv_at hl 0 rfl) ?_
  refine lv_iload_n hx hb dX7_clear_1 rfl (lv_at hl 1 rfl) ?_
  refine g_put (w' := [(t0, .inr (7, [.int a0, .int i1, .int i2, .int i3, .int i4, .int i5, .int i6, .int i7]))]) hx hb hg hown hK hP hD hS 0 rfl rfl inX7 tyX7_ok nmX7 0 (by decide) q307 rfl rfl rfl (Nat.le_of_ble_eq_true rfl) rfl dX7_clear_2 (fun H locs hP hD hS => ?_)
  refine lv_aload_n hx hb dX7_clear_5 rfl (lv_at hl 0 rfl) ?_
  refine lv_iconst (v := 0) hx hb dX7_clear_6 (by decide) ?_
  refine g_put (w' := [(t0, .inr (7, [.int a0, .int 0, .int i2, .int i3, .int i4, .int i5, .int i6, .int i7]))]) hx hb hg hown hK hP hD hS 0 rfl rfl inX7 tyX7_ok nmX7 1 (by decide) q310 rfl rfl rfl (Nat.le_of_ble_eq_true rfl) rfl dX7_clear_7 (fun H locs hP hD hS => ?_)
  refine lv_aload_n hx hb dX7_clear_10 rfl (lv_at hl 0 rfl) ?_
  refine lv_iconst (v := 0) hx hb dX7_clear_11 (by decide) ?_
  refine g_put (w' := [(t0, .inr (7, [.int a0, .int 0, .int 0, .int i3, .int i4, .int i5, .int i6, .int i7]))]) hx hb hg hown hK hP hD hS 0 rfl rfl inX7 tyX7_ok nmX7 2 (by decide) q313 rfl rfl rfl (Nat.le_of_ble_eq_true rfl) rfl dX7_clear_12 (fun H locs hP hD hS => ?_)
  refine lv_aload_n hx hb dX7_clear_15 rfl (lv_at hl 0 rfl) ?_
  refine lv_iconst (v := (-1)) hx hb dX7_clear_16 (by decide) ?_
  refine g_put (w' := [(t0, .inr (7, [.int a0, .int 0, .int 0, .int (-1), .int i4, .int i5, .int i6, .int i7]))]) hx hb hg hown hK hP hD hS 0 rfl rfl inX7 tyX7_ok nmX7 3 (by decide) q316 rfl rfl rfl (Nat.le_of_ble_eq_true rfl) rfl dX7_clear_17 (fun H locs hP hD hS => ?_)
  refine lv_aload_n hx hb dX7_clear_20 rfl (lv_at hl 0 rfl) ?_
  refine lv_iconst (v := (-1)) hx hb dX7_clear_21 (by decide) ?_
  refine g_put (w' := [(t0, .inr (7, [.int a0, .int 0, .int 0, .int (-1), .int (-1), .int i5, .int i6, .int i7]))]) hx hb hg hown hK hP hD hS 0 rfl rfl inX7 tyX7_ok nmX7 4 (by decide) q319 rfl rfl rfl (Nat.le_of_ble_eq_true rfl) rfl dX7_clear_22 (fun H locs hP hD hS => ?_)
  refine lv_aload_n hx hb dX7_clear_25 rfl (lv_at hl 0 rfl) ?_
  refine lv_iconst (v := 0) hx hb dX7_clear_26 (by decide) ?_
  refine g_put (w' := [(t0, .inr (7, [.int a0, .int 0, .int 0, .int (-1), .int (-1), .int 0, .int i6, .int i7]))]) hx hb hg hown hK hP hD hS 0 rfl rfl inX7 tyX7_ok nmX7 5 (by decide) q322 rfl rfl rfl (Nat.le_of_ble_eq_true rfl) rfl dX7_clear_27 (fun H locs hP hD hS => ?_)
  refine lv_aload_n hx hb dX7_clear_30 rfl (lv_at hl 0 rfl) ?_
  refine lv_iconst (v := 0) hx hb dX7_clear_31 (by decide) ?_
  refine g_put (w' := [(t0, .inr (7, [.int a0, .int 0, .int 0, .int (-1), .int (-1), .int 0, .int 0, .int i7]))]) hx hb hg hown hK hP hD hS 0 rfl rfl inX7 tyX7_ok nmX7 6 (by decide) q325 rfl rfl rfl (Nat.le_of_ble_eq_true rfl) rfl dX7_clear_32 (fun H locs hP hD hS => ?_)
  refine lv_aload_n hx hb dX7_clear_35 rfl (lv_at hl 0 rfl) ?_
  refine lv_iconst (v := 0) hx hb dX7_clear_36 (by decide) ?_
  refine g_put (w' := [(t0, .inr (7, [.int a0, .int 0, .int 0, .int (-1), .int (-1), .int 0, .int 0, .int 0]))]) hx hb hg hown hK hP hD hS 0 rfl rfl inX7 tyX7_ok nmX7 7 (by decide) q327 rfl rfl rfl (Nat.le_of_ble_eq_true rfl) rfl dX7_clear_37 (fun H locs hP hD hS => ?_)
  exact g_vret hx hb hr hlocks hK (a0, 0, 0, (-1), (-1), 0, 0, 0) hP hD hS (show 0 ≤ ((0 : Int32)).toInt ∧ ((0 : Int32)).toInt ≤ 1 from by decide) (Nat.le_of_ble_eq_true rfl) (Nat.le_of_ble_eq_true rfl) dX7_clear_40
set_option maxHeartbeats 4000000 in
set_option maxRecDepth 100000 in
theorem s_X7_isBare (l : Launch) (D : va_G) (dA : Nat → ClassId) (t0 : Nat) (i0 : Int32) (i1 : Int32) (i2 : Int32) (i3 : Int32) (i4 : Int32) (i5 : Int32) (i6 : Int32) (i7 : Int32) (p0 : 0 ≤ i5.toInt ∧ i5.toInt ≤ 1) (sz : Nat) : Met l yX7_isBare (gws yX7_isBare cX7_isBare 1 (some .boolean)) (gR 1 0 0) (gPre D dA [.ref t0] [(t0, .inr (7, [.int i0, .int i1, .int i2, .int i3, .int i4, .int i5, .int i6, .int i7]))] sz) (va_Qi (fun (r : Int32) (u : Unit) => (0 ≤ r.toInt ∧ r.toInt ≤ 1)) (gAt D dA (va_A [(t0, .inr (7, [.int i0, .int i1, .int i2, .int i3, .int i4, .int i5, .int i6, .int i7]))] sz) (fun u : Unit => [(t0, .inr (7, [.int i0, .int i1, .int i2, .int i3, .int i4, .int i5, .int i6, .int i7]))])) (va_A [(t0, .inr (7, [.int i0, .int i1, .int i2, .int i3, .int i4, .int i5, .int i6, .int i7]))] sz)) 0 0 (va_A [(t0, .inr (7, [.int i0, .int i1, .int i2, .int i3, .int i4, .int i5, .int i6, .int i7]))] sz) := by
  refine Met.ofW (cc := cX7_isBare) (maxL := 1) (ret := (some .boolean)) (by decide) rfl ?_
  intro p e s m args below meth c s₁ B hml hv
  obtain ⟨rfl, hsz, hP, hK, hD0⟩ := hv
  have hx := B.exec
  have hb := B.bytes
  have hr := B.returns
  have hts := atoms_spec (ws := gws yX7_isBare cX7_isBare 1 (some .boolean)) B.pre
  have hg : ∀ w ∈ gw, w.before _ s = true := fun w h => hts w (List.mem_cons_of_mem _ h)
  have hown : s.vm.findClass RX7 = some m.cls := findClass_of_methodNamed B.named
  have hlocks := B.notSynchronized
  subst hsz
  have hD := hD0.self (sz := s.heap.size)
  generalize hAe : va_A [(t0, .inr (7, [.int i0, .int i1, .int i2, .int i3, .int i4, .int i5, .int i6, .int i7]))] s.heap.size = A at hD ⊢
  have hA : ∀ q : Nat, s.heap.size ≤ q → A q := fun q h => by rw [← hAe]; exact Or.inr h
  have hS : va_S A s.heap s.heap [] := va_S.rf
  have hP : va_P D vwC [(t0, .inr (7, [.int i0, .int i1, .int i2, .int i3, .int i4, .int i5, .int i6, .int i7]))] s.heap := hP
  have hl := lv_entry ([.ref t0]) (n := 1) (Nat.le_of_ble_eq_true rfl)
  rw [lg_entry_eq]
  generalize (lg_sl ([.ref t0]) ++ List.replicate (1 - (lg_sl ([.ref t0])).length) Slot.unset).toArray = ls at hl ⊢
  have hl : lv_has ls 1 [(0, .ref t0)] := hl
  refine lv_aload_n hx hb dX7_isBare_0 rfl (lv_at hl 0 rfl) ?_
  refine g_get hx hb hg hown hK hP 0 rfl rfl inX7 6 (by decide) q325 rfl dX7_isBare_1 ?_
  refine lv_if_ne (tgt := 18) hx hb dX7_isBare_4 (by decide) (fun k1 => ?_) (fun k1 => ?_)
  · have g2 : i6.toInt ≠ 0 := gi_neq (rfl : i6.toInt = i6.toInt) (by decide : (0 : Int32).toInt = 0) k1
    refine lv_iconst (v := 0) hx hb dX7_isBare_18 (by decide) ?_
    exact g_iret hx hb hr rfl hlocks hK () hP hD hS (show 0 ≤ ((0 : Int32)).toInt ∧ ((0 : Int32)).toInt ≤ 1 from by decide) (Nat.le_of_ble_eq_true rfl) (Nat.le_of_ble_eq_true rfl) dX7_isBare_19
  · have g3 : i6.toInt = 0 := gi_eq (rfl : i6.toInt = i6.toInt) (by decide : (0 : Int32).toInt = 0) k1
    refine lv_aload_n hx hb dX7_isBare_7 rfl (lv_at hl 0 rfl) ?_
    refine g_get hx hb hg hown hK hP 0 rfl rfl inX7 7 (by decide) q327 rfl dX7_isBare_8 ?_
    refine lv_if_ne (tgt := 18) hx hb dX7_isBare_11 (by decide) (fun k4 => ?_) (fun k4 => ?_)
    · have g5 : i7.toInt ≠ 0 := gi_neq (rfl : i7.toInt = i7.toInt) (by decide : (0 : Int32).toInt = 0) k4
      refine lv_iconst (v := 0) hx hb dX7_isBare_18 (by decide) ?_
      exact g_iret hx hb hr rfl hlocks hK () hP hD hS (show 0 ≤ ((0 : Int32)).toInt ∧ ((0 : Int32)).toInt ≤ 1 from by decide) (Nat.le_of_ble_eq_true rfl) (Nat.le_of_ble_eq_true rfl) dX7_isBare_19
    · have g6 : i7.toInt = 0 := gi_eq (rfl : i7.toInt = i7.toInt) (by decide : (0 : Int32).toInt = 0) k4
      refine lv_iconst (v := 1) hx hb dX7_isBare_14 (by decide) ?_
      refine lv_goto (tgt := 19) hx hb dX7_isBare_15 (by decide) ?_
      exact g_iret hx hb hr rfl hlocks hK () hP hD hS (show 0 ≤ ((1 : Int32)).toInt ∧ ((1 : Int32)).toInt ≤ 1 from by decide) (Nat.le_of_ble_eq_true rfl) (Nat.le_of_ble_eq_true rfl) dX7_isBare_19
set_option maxHeartbeats 4000000 in
set_option maxRecDepth 100000 in
theorem s_X7_signedNumber (l : Launch) (D : va_G) (dA : Nat → ClassId) (t0 : Nat) (i0 : Int32) (i1 : Int32) (i2 : Int32) (i3 : Int32) (i4 : Int32) (i5 : Int32) (i6 : Int32) (i7 : Int32) (p0 : 0 ≤ i5.toInt ∧ i5.toInt ≤ 1) (sz : Nat) : Met l yX7_signedNumber (gws yX7_signedNumber cX7_signedNumber 1 (some .int)) (gR 1 0 0) (gPre D dA [.ref t0] [(t0, .inr (7, [.int i0, .int i1, .int i2, .int i3, .int i4, .int i5, .int i6, .int i7]))] sz) (va_Qi (fun (r : Int32) (u : Unit) => (-32768 ≤ r.toInt ∧ r.toInt ≤ 32767)) (gAt D dA (va_A [(t0, .inr (7, [.int i0, .int i1, .int i2, .int i3, .int i4, .int i5, .int i6, .int i7]))] sz) (fun u : Unit => [(t0, .inr (7, [.int i0, .int i1, .int i2, .int i3, .int i4, .int i5, .int i6, .int i7]))])) (va_A [(t0, .inr (7, [.int i0, .int i1, .int i2, .int i3, .int i4, .int i5, .int i6, .int i7]))] sz)) 0 0 (va_A [(t0, .inr (7, [.int i0, .int i1, .int i2, .int i3, .int i4, .int i5, .int i6, .int i7]))] sz) := by
  refine Met.ofW (cc := cX7_signedNumber) (maxL := 1) (ret := (some .int)) (by decide) rfl ?_
  intro p e s m args below meth c s₁ B hml hv
  obtain ⟨rfl, hsz, hP, hK, hD0⟩ := hv
  have hx := B.exec
  have hb := B.bytes
  have hr := B.returns
  have hts := atoms_spec (ws := gws yX7_signedNumber cX7_signedNumber 1 (some .int)) B.pre
  have hg : ∀ w ∈ gw, w.before _ s = true := fun w h => hts w (List.mem_cons_of_mem _ h)
  have hown : s.vm.findClass RX7 = some m.cls := findClass_of_methodNamed B.named
  have hlocks := B.notSynchronized
  subst hsz
  have hD := hD0.self (sz := s.heap.size)
  generalize hAe : va_A [(t0, .inr (7, [.int i0, .int i1, .int i2, .int i3, .int i4, .int i5, .int i6, .int i7]))] s.heap.size = A at hD ⊢
  have hA : ∀ q : Nat, s.heap.size ≤ q → A q := fun q h => by rw [← hAe]; exact Or.inr h
  have hS : va_S A s.heap s.heap [] := va_S.rf
  have hP : va_P D vwC [(t0, .inr (7, [.int i0, .int i1, .int i2, .int i3, .int i4, .int i5, .int i6, .int i7]))] s.heap := hP
  have hl := lv_entry ([.ref t0]) (n := 1) (Nat.le_of_ble_eq_true rfl)
  rw [lg_entry_eq]
  generalize (lg_sl ([.ref t0]) ++ List.replicate (1 - (lg_sl ([.ref t0])).length) Slot.unset).toArray = ls at hl ⊢
  have hl : lv_has ls 1 [(0, .ref t0)] := hl
  refine lv_aload_n hx hb dX7_signedNumber_0 rfl (lv_at hl 0 rfl) ?_
  refine g_get hx hb hg hown hK hP 0 rfl rfl inX7 2 (by decide) q313 rfl dX7_signedNumber_1 ?_
  refine lv_i2s hx hb dX7_signedNumber_4 rfl ?_
  refine lv_topi (fun x1 e2 => ?_)
  have g3 : -32768 ≤ x1.toInt ∧ x1.toInt ≤ 32767 := g_i2s e2
  exact g_iret hx hb hr rfl hlocks hK () hP hD hS (show -32768 ≤ x1.toInt ∧ x1.toInt ≤ 32767 from by omega) (Nat.le_of_ble_eq_true rfl) (Nat.le_of_ble_eq_true rfl) dX7_signedNumber_5
set_option maxHeartbeats 4000000 in
set_option maxRecDepth 100000 in
theorem s_X7_mode (l : Launch) (D : va_G) (dA : Nat → ClassId) (t0 : Nat) (i0 : Int32) (i1 : Int32) (i2 : Int32) (i3 : Int32) (i4 : Int32) (i5 : Int32) (i6 : Int32) (i7 : Int32) (p0 : 0 ≤ i5.toInt ∧ i5.toInt ≤ 1) (sz : Nat) : Met l yX7_mode (gws yX7_mode cX7_mode 1 (some .int)) (gR 1 0 0) (gPre D dA [.ref t0] [(t0, .inr (7, [.int i0, .int i1, .int i2, .int i3, .int i4, .int i5, .int i6, .int i7]))] sz) (va_Qi (fun (r : Int32) (u : Unit) => True) (gAt D dA (va_A [(t0, .inr (7, [.int i0, .int i1, .int i2, .int i3, .int i4, .int i5, .int i6, .int i7]))] sz) (fun u : Unit => [(t0, .inr (7, [.int i0, .int i1, .int i2, .int i3, .int i4, .int i5, .int i6, .int i7]))])) (va_A [(t0, .inr (7, [.int i0, .int i1, .int i2, .int i3, .int i4, .int i5, .int i6, .int i7]))] sz)) 0 0 (va_A [(t0, .inr (7, [.int i0, .int i1, .int i2, .int i3, .int i4, .int i5, .int i6, .int i7]))] sz) := by
  refine Met.ofW (cc := cX7_mode) (maxL := 1) (ret := (some .int)) (by decide) rfl ?_
  intro p e s m args below meth c s₁ B hml hv
  obtain ⟨rfl, hsz, hP, hK, hD0⟩ := hv
  have hx := B.exec
  have hb := B.bytes
  have hr := B.returns
  have hts := atoms_spec (ws := gws yX7_mode cX7_mode 1 (some .int)) B.pre
  have hg : ∀ w ∈ gw, w.before _ s = true := fun w h => hts w (List.mem_cons_of_mem _ h)
  have hown : s.vm.findClass RX7 = some m.cls := findClass_of_methodNamed B.named
  have hlocks := B.notSynchronized
  subst hsz
  have hD := hD0.self (sz := s.heap.size)
  generalize hAe : va_A [(t0, .inr (7, [.int i0, .int i1, .int i2, .int i3, .int i4, .int i5, .int i6, .int i7]))] s.heap.size = A at hD ⊢
  have hA : ∀ q : Nat, s.heap.size ≤ q → A q := fun q h => by rw [← hAe]; exact Or.inr h
  have hS : va_S A s.heap s.heap [] := va_S.rf
  have hP : va_P D vwC [(t0, .inr (7, [.int i0, .int i1, .int i2, .int i3, .int i4, .int i5, .int i6, .int i7]))] s.heap := hP
  have hl := lv_entry ([.ref t0]) (n := 1) (Nat.le_of_ble_eq_true rfl)
  rw [lg_entry_eq]
  generalize (lg_sl ([.ref t0]) ++ List.replicate (1 - (lg_sl ([.ref t0])).length) Slot.unset).toArray = ls at hl ⊢
  have hl : lv_has ls 1 [(0, .ref t0)] := hl
  refine lv_aload_n hx hb dX7_mode_0 rfl (lv_at hl 0 rfl) ?_
  refine g_get hx hb hg hown hK hP 0 rfl rfl inX7 6 (by decide) q325 rfl dX7_mode_1 ?_
  refine lv_if_ne (tgt := 26) hx hb dX7_mode_4 (by decide) (fun k1 => ?_) (fun k1 => ?_)
  · have g2 : i6.toInt ≠ 0 := gi_neq (rfl : i6.toInt = i6.toInt) (by decide : (0 : Int32).toInt = 0) k1
    refine lv_aload_n hx hb dX7_mode_26 rfl (lv_at hl 0 rfl) ?_
    refine g_get hx hb hg hown hK hP 0 rfl rfl inX7 7 (by decide) q327 rfl dX7_mode_27 ?_
    refine lv_if_ne (tgt := 49) hx hb dX7_mode_30 (by decide) (fun k3 => ?_) (fun k3 => ?_)
    · have g4 : i7.toInt ≠ 0 := gi_neq (rfl : i7.toInt = i7.toInt) (by decide : (0 : Int32).toInt = 0) k3
      refine lv_aload_n hx hb dX7_mode_49 rfl (lv_at hl 0 rfl) ?_
      refine g_get hx hb hg hown hK hP 0 rfl rfl inX7 6 (by decide) q325 rfl dX7_mode_50 ?_
      refine lv_iconst (v := 3) hx hb dX7_mode_53 (by decide) ?_
      refine lv_icmp_ne (tgt := 61) hx hb dX7_mode_54 (by decide) (fun k5 => ?_) (fun k5 => ?_)
      · have g6 : i6.toInt ≠ 3 := gi_neq (rfl : i6.toInt = i6.toInt) (by decide : (3 : Int32).toInt = 3) k5
        refine lv_iconst (v := 2) hx hb dX7_mode_61 (by decide) ?_
        refine lv_aload_n hx hb dX7_mode_62 rfl (lv_at hl 0 rfl) ?_
        refine g_get hx hb hg hown hK hP 0 rfl rfl inX7 7 (by decide) q327 rfl dX7_mode_63 ?_
        refine lv_iadd hx hb dX7_mode_66 ?_
        have g7 := g_i32 i7
        refine lv_topi (fun x8 e9 => ?_)
        refine lv_bipush (v := 6) hx hb dX7_mode_67 (by decide) ?_
        refine lv_isub hx hb dX7_mode_69 ?_
        have g10 := g_i32 x8
        refine lv_topi (fun x11 e12 => ?_)
        exact g_iret hx hb hr rfl hlocks hK () hP hD hS trivial (Nat.le_of_ble_eq_true rfl) (Nat.le_of_ble_eq_true rfl) dX7_mode_70
      · have g13 : i6.toInt = 3 := gi_eq (rfl : i6.toInt = i6.toInt) (by decide : (3 : Int32).toInt = 3) k5
        refine lv_iconst (v := 0) hx hb dX7_mode_57 (by decide) ?_
        refine lv_goto (tgt := 62) hx hb dX7_mode_58 (by decide) ?_
        refine lv_aload_n hx hb dX7_mode_62 rfl (lv_at hl 0 rfl) ?_
        refine g_get hx hb hg hown hK hP 0 rfl rfl inX7 7 (by decide) q327 rfl dX7_mode_63 ?_
        refine lv_iadd hx hb dX7_mode_66 ?_
        have g14 := g_i32 i7
        refine lv_topi (fun x15 e16 => ?_)
        have g17 : x15.toInt = 0 + i7.toInt := g_add e16 (by decide) rfl (by omega) (by omega)
        refine lv_bipush (v := 6) hx hb dX7_mode_67 (by decide) ?_
        refine lv_isub hx hb dX7_mode_69 ?_
        have g18 := g_i32 x15
        refine lv_topi (fun x19 e20 => ?_)
        exact g_iret hx hb hr rfl hlocks hK () hP hD hS trivial (Nat.le_of_ble_eq_true rfl) (Nat.le_of_ble_eq_true rfl) dX7_mode_70
    · have g21 : i7.toInt = 0 := gi_eq (rfl : i7.toInt = i7.toInt) (by decide : (0 : Int32).toInt = 0) k3
      refine lv_aload_n hx hb dX7_mode_33 rfl (lv_at hl 0 rfl) ?_
      refine g_get hx hb hg hown hK hP 0 rfl rfl inX7 6 (by decide) q325 rfl dX7_mode_34 ?_
      refine lv_iconst (v := 3) hx hb dX7_mode_37 (by decide) ?_
      refine lv_icmp_ne (tgt := 46) hx hb dX7_mode_38 (by decide) (fun k22 => ?_) (fun k22 => ?_)
      · have g23 : i6.toInt ≠ 3 := gi_neq (rfl : i6.toInt = i6.toInt) (by decide : (3 : Int32).toInt = 3) k22
        refine lv_bipush (v := 6) hx hb dX7_mode_46 (by decide) ?_
        exact g_iret hx hb hr rfl hlocks hK () hP hD hS trivial (Nat.le_of_ble_eq_true rfl) (Nat.le_of_ble_eq_true rfl) dX7_mode_48
      · have g24 : i6.toInt = 3 := gi_eq (rfl : i6.toInt = i6.toInt) (by decide : (3 : Int32).toInt = 3) k22
        refine lv_bipush (v := 7) hx hb dX7_mode_41 (by decide) ?_
        refine lv_goto (tgt := 48) hx hb dX7_mode_43 (by decide) ?_
        exact g_iret hx hb hr rfl hlocks hK () hP hD hS trivial (Nat.le_of_ble_eq_true rfl) (Nat.le_of_ble_eq_true rfl) dX7_mode_48
  · have g25 : i6.toInt = 0 := gi_eq (rfl : i6.toInt = i6.toInt) (by decide : (0 : Int32).toInt = 0) k1
    refine lv_aload_n hx hb dX7_mode_7 rfl (lv_at hl 0 rfl) ?_
    refine g_get hx hb hg hown hK hP 0 rfl rfl inX7 7 (by decide) q327 rfl dX7_mode_8 ?_
    refine lv_if_ne (tgt := 19) hx hb dX7_mode_11 (by decide) (fun k26 => ?_) (fun k26 => ?_)
    · have g27 : i7.toInt ≠ 0 := gi_neq (rfl : i7.toInt = i7.toInt) (by decide : (0 : Int32).toInt = 0) k26
      refine lv_aload_n hx hb dX7_mode_19 rfl (lv_at hl 0 rfl) ?_
      refine g_get hx hb hg hown hK hP 0 rfl rfl inX7 7 (by decide) q327 rfl dX7_mode_20 ?_
      refine lv_iconst (v := 2) hx hb dX7_mode_23 (by decide) ?_
      refine lv_isub hx hb dX7_mode_24 ?_
      have g28 := g_i32 i7
      refine lv_topi (fun x29 e30 => ?_)
      exact g_iret hx hb hr rfl hlocks hK () hP hD hS trivial (Nat.le_of_ble_eq_true rfl) (Nat.le_of_ble_eq_true rfl) dX7_mode_25
    · have g31 : i7.toInt = 0 := gi_eq (rfl : i7.toInt = i7.toInt) (by decide : (0 : Int32).toInt = 0) k26
      refine lv_bipush (v := 6) hx hb dX7_mode_14 (by decide) ?_
      refine lv_goto (tgt := 25) hx hb dX7_mode_16 (by decide) ?_
      exact g_iret hx hb hr rfl hlocks hK () hP hD hS trivial (Nat.le_of_ble_eq_true rfl) (Nat.le_of_ble_eq_true rfl) dX7_mode_25
set_option maxHeartbeats 4000000 in
set_option maxRecDepth 100000 in
theorem s_X7_displacementSize (l : Launch) (D : va_G) (dA : Nat → ClassId) (t0 : Nat) (i0 : Int32) (i1 : Int32) (i2 : Int32) (i3 : Int32) (i4 : Int32) (i5 : Int32) (i6 : Int32) (i7 : Int32) (p0 : 0 ≤ i5.toInt ∧ i5.toInt ≤ 1) (sz : Nat) : Met l yX7_displacementSize (gws yX7_displacementSize cX7_displacementSize 2 (some .int)) (gR 2 0 0) (gPre D dA [.ref t0] [(t0, .inr (7, [.int i0, .int i1, .int i2, .int i3, .int i4, .int i5, .int i6, .int i7]))] sz) (va_Qi (fun (r : Int32) (u : Unit) => (0 ≤ r.toInt ∧ r.toInt ≤ 2)) (gAt D dA (va_A [(t0, .inr (7, [.int i0, .int i1, .int i2, .int i3, .int i4, .int i5, .int i6, .int i7]))] sz) (fun u : Unit => [(t0, .inr (7, [.int i0, .int i1, .int i2, .int i3, .int i4, .int i5, .int i6, .int i7]))])) (va_A [(t0, .inr (7, [.int i0, .int i1, .int i2, .int i3, .int i4, .int i5, .int i6, .int i7]))] sz)) 0 0 (va_A [(t0, .inr (7, [.int i0, .int i1, .int i2, .int i3, .int i4, .int i5, .int i6, .int i7]))] sz) := by
  refine Met.ofW (cc := cX7_displacementSize) (maxL := 2) (ret := (some .int)) (by decide) rfl ?_
  intro p e s m args below meth c s₁ B hml hv
  obtain ⟨rfl, hsz, hP, hK, hD0⟩ := hv
  have hx := B.exec
  have hb := B.bytes
  have hr := B.returns
  have hts := atoms_spec (ws := gws yX7_displacementSize cX7_displacementSize 2 (some .int)) B.pre
  have hg : ∀ w ∈ gw, w.before _ s = true := fun w h => hts w (List.mem_cons_of_mem _ h)
  have hown : s.vm.findClass RX7 = some m.cls := findClass_of_methodNamed B.named
  have hlocks := B.notSynchronized
  subst hsz
  have hD := hD0.self (sz := s.heap.size)
  generalize hAe : va_A [(t0, .inr (7, [.int i0, .int i1, .int i2, .int i3, .int i4, .int i5, .int i6, .int i7]))] s.heap.size = A at hD ⊢
  have hA : ∀ q : Nat, s.heap.size ≤ q → A q := fun q h => by rw [← hAe]; exact Or.inr h
  have hS : va_S A s.heap s.heap [] := va_S.rf
  have hP : va_P D vwC [(t0, .inr (7, [.int i0, .int i1, .int i2, .int i3, .int i4, .int i5, .int i6, .int i7]))] s.heap := hP
  have hl := lv_entry ([.ref t0]) (n := 2) (Nat.le_of_ble_eq_true rfl)
  rw [lg_entry_eq]
  generalize (lg_sl ([.ref t0]) ++ List.replicate (2 - (lg_sl ([.ref t0])).length) Slot.unset).toArray = ls at hl ⊢
  have hl : lv_has ls 2 [(0, .ref t0)] := hl
  refine lv_aload_n hx hb dX7_displacementSize_0 rfl (lv_at hl 0 rfl) ?_
  refine g_Vi (n := 0) (As := []) (rest := []) (wr := []) hx hb hml hg hown hK hP hD hS hA (s_X7_isBare l D dA t0 i0 i1 i2 i3 i4 i5 i6 i7 (by omega) _) [0] [] rfl (by decide) rfl (by decide) (by decide) 0 rfl rfl q1058 q154 q1055 q1056 q1057 (by decide +kernel) ⟨(Nat.le_of_ble_eq_true rfl), (Nat.le_of_ble_eq_true rfl)⟩ rfl hl.1 rfl (Nat.le_of_ble_eq_true rfl) dX7_displacementSize_1 ⟨(Nat.le_of_ble_eq_true rfl), (Nat.le_of_ble_eq_true rfl)⟩ (fun x2 u1 H locs w3 hP hD hS => ?_)
  refine W.widen (k := 0) (n := 0) (Nat.le_of_ble_eq_true rfl) (Nat.le_of_ble_eq_true rfl) ?_
  have hP : va_P D vwC [(t0, .inr (7, [.int i0, .int i1, .int i2, .int i3, .int i4, .int i5, .int i6, .int i7]))] H := hP
  have hD : va_D A [(t0, .inr (7, [.int i0, .int i1, .int i2, .int i3, .int i4, .int i5, .int i6, .int i7]))] := hD
  have g4 := w3
  have g4 : 0 ≤ x2.toInt ∧ x2.toInt ≤ 1 := g4
  refine lv_if_ne (tgt := 14) hx hb dX7_displacementSize_4 (by decide) (fun k5 => ?_) (fun k5 => ?_)
  · have g6 : x2.toInt ≠ 0 := gi_neq (rfl : x2.toInt = x2.toInt) (by decide : (0 : Int32).toInt = 0) k5
    refine lv_iconst (v := 2) hx hb dX7_displacementSize_14 (by decide) ?_
    exact g_iret hx hb hr rfl hlocks hK () hP hD hS (show 0 ≤ ((2 : Int32)).toInt ∧ ((2 : Int32)).toInt ≤ 2 from by decide) (Nat.le_of_ble_eq_true rfl) (Nat.le_of_ble_eq_true rfl) dX7_displacementSize_15
  · have g7 : x2.toInt = 0 := gi_eq (rfl : x2.toInt = x2.toInt) (by decide : (0 : Int32).toInt = 0) k5
    refine lv_aload_n hx hb dX7_displacementSize_7 rfl (lv_at hl 0 rfl) ?_
    refine g_get hx hb hg hown hK hP 0 rfl rfl inX7 3 (by decide) q316 rfl dX7_displacementSize_8 ?_
    refine lv_if_lt (tgt := 16) hx hb dX7_displacementSize_11 (by decide) (fun k8 => ?_) (fun k8 => ?_)
    · have g9 : i3.toInt < 0 := gi_lt (rfl : i3.toInt = i3.toInt) (by decide : (0 : Int32).toInt = 0) k8
      refine lv_aload_n hx hb dX7_displacementSize_16 rfl (lv_at hl 0 rfl) ?_
      refine g_Vi (n := 0) (As := []) (rest := []) (wr := []) hx hb hml hg hown hK hP hD hS hA (s_X7_signedNumber l D dA t0 i0 i1 i2 i3 i4 i5 i6 i7 (by omega) _) [0] [] rfl (by decide) rfl (by decide) (by decide) 0 rfl rfl q1062 q154 q1059 q1060 q1061 (by decide +kernel) ⟨(Nat.le_of_ble_eq_true rfl), (Nat.le_of_ble_eq_true rfl)⟩ rfl hl.1 rfl (Nat.le_of_ble_eq_true rfl) dX7_displacementSize_17 ⟨(Nat.le_of_ble_eq_true rfl), (Nat.le_of_ble_eq_true rfl)⟩ (fun x11 u10 H locs w12 hP hD hS => ?_)
      refine W.widen (k := 0) (n := 0) (Nat.le_of_ble_eq_true rfl) (Nat.le_of_ble_eq_true rfl) ?_
      have hP : va_P D vwC [(t0, .inr (7, [.int i0, .int i1, .int i2, .int i3, .int i4, .int i5, .int i6, .int i7]))] H := hP
      have hD : va_D A [(t0, .inr (7, [.int i0, .int i1, .int i2, .int i3, .int i4, .int i5, .int i6, .int i7]))] := hD
      have g13 := w12
      have g13 : -32768 ≤ x11.toInt ∧ x11.toInt ≤ 32767 := g13
      refine lv_istore_n (lv' := [(1, .int x11), (0, .ref t0)]) hx hb dX7_displacementSize_20 rfl hl (by decide) rfl (fun ls hl => ?_)
      refine lv_iload_n hx hb dX7_displacementSize_21 rfl (lv_at hl 0 rfl) ?_
      refine lv_if_ne (tgt := 36) hx hb dX7_displacementSize_22 (by decide) (fun k14 => ?_) (fun k14 => ?_)
      · have g15 : x11.toInt ≠ 0 := gi_neq (rfl : x11.toInt = x11.toInt) (by decide : (0 : Int32).toInt = 0) k14
        refine lv_iload_n hx hb dX7_displacementSize_36 rfl (lv_at hl 0 rfl) ?_
        refine g_Si (n := 1) (As := [.int x11]) (rest := []) (wr := [(t0, .inr (7, [.int i0, .int i1, .int i2, .int i3, .int i4, .int i5, .int i6, .int i7]))]) hx hb hml hg hown hK hP hD hS hA (s_X2_isShort l D dA x11 _) [] [0] rfl (by decide) rfl (by decide) (by decide) q1069 q155 q1067 q1068 (by decide +kernel) ⟨(Nat.le_of_ble_eq_true rfl), (Nat.le_of_ble_eq_true rfl)⟩ rfl hl.1 rfl (Nat.le_of_ble_eq_true rfl) dX7_displacementSize_37 ⟨(Nat.le_of_ble_eq_true rfl), (Nat.le_of_ble_eq_true rfl)⟩ (fun x17 u16 H locs w18 hP hD hS => ?_)
        refine W.widen (k := 0) (n := 0) (Nat.le_of_ble_eq_true rfl) (Nat.le_of_ble_eq_true rfl) ?_
        have hP : va_P D vwC [(t0, .inr (7, [.int i0, .int i1, .int i2, .int i3, .int i4, .int i5, .int i6, .int i7]))] H := hP
        have hD : va_D A [(t0, .inr (7, [.int i0, .int i1, .int i2, .int i3, .int i4, .int i5, .int i6, .int i7]))] := hD
        have g19 := w18
        have g19 : 0 ≤ x17.toInt ∧ x17.toInt ≤ 1 := g19
        refine lv_if_eq (tgt := 47) hx hb dX7_displacementSize_40 (by decide) (fun k20 => ?_) (fun k20 => ?_)
        · have g21 : x17.toInt = 0 := gi_eq (rfl : x17.toInt = x17.toInt) (by decide : (0 : Int32).toInt = 0) k20
          refine lv_iconst (v := 2) hx hb dX7_displacementSize_47 (by decide) ?_
          exact g_iret hx hb hr rfl hlocks hK () hP hD hS (show 0 ≤ ((2 : Int32)).toInt ∧ ((2 : Int32)).toInt ≤ 2 from by decide) (Nat.le_of_ble_eq_true rfl) (Nat.le_of_ble_eq_true rfl) dX7_displacementSize_48
        · have g22 : x17.toInt ≠ 0 := gi_neq (rfl : x17.toInt = x17.toInt) (by decide : (0 : Int32).toInt = 0) k20
          refine lv_iconst (v := 1) hx hb dX7_displacementSize_43 (by decide) ?_
          refine lv_goto (tgt := 48) hx hb dX7_displacementSize_44 (by decide) ?_
          exact g_iret hx hb hr rfl hlocks hK () hP hD hS (show 0 ≤ ((1 : Int32)).toInt ∧ ((1 : Int32)).toInt ≤ 2 from by decide) (Nat.le_of_ble_eq_true rfl) (Nat.le_of_ble_eq_true rfl) dX7_displacementSize_48
      · have g23 : x11.toInt = 0 := gi_eq (rfl : x11.toInt = x11.toInt) (by decide : (0 : Int32).toInt = 0) k14
        refine lv_aload_n hx hb dX7_displacementSize_25 rfl (lv_at hl 1 rfl) ?_
        refine g_Vi (n := 0) (As := []) (rest := []) (wr := []) hx hb hml hg hown hK hP hD hS hA (s_X7_mode l D dA t0 i0 i1 i2 i3 i4 i5 i6 i7 (by omega) _) [0] [] rfl (by decide) rfl (by decide) (by decide) 0 rfl rfl q1066 q154 q1063 q1064 q1065 (by decide +kernel) ⟨(Nat.le_of_ble_eq_true rfl), (Nat.le_of_ble_eq_true rfl)⟩ rfl hl.1 rfl (Nat.le_of_ble_eq_true rfl) dX7_displacementSize_26 ⟨(Nat.le_of_ble_eq_true rfl), (Nat.le_of_ble_eq_true rfl)⟩ (fun x25 u24 H locs w26 hP hD hS => ?_)
        refine W.widen (k := 0) (n := 0) (Nat.le_of_ble_eq_true rfl) (Nat.le_of_ble_eq_true rfl) ?_
        have hP : va_P D vwC [(t0, .inr (7, [.int i0, .int i1, .int i2, .int i3, .int i4, .int i5, .int i6, .int i7]))] H := hP
        have hD : va_D A [(t0, .inr (7, [.int i0, .int i1, .int i2, .int i3, .int i4, .int i5, .int i6, .int i7]))] := hD
        refine lv_bipush (v := 6) hx hb dX7_displacementSize_29 (by decide) ?_
        refine lv_icmp_eq (tgt := 36) hx hb dX7_displacementSize_31 (by decide) (fun k27 => ?_) (fun k27 => ?_)
        · have g28 : x25.toInt = 6 := gi_eq (rfl : x25.toInt = x25.toInt) (by decide : (6 : Int32).toInt = 6) k27
          refine lv_iload_n hx hb dX7_displacementSize_36 rfl (lv_at hl 0 rfl) ?_
          refine g_Si (n := 1) (As := [.int x11]) (rest := []) (wr := [(t0, .inr (7, [.int i0, .int i1, .int i2, .int i3, .int i4, .int i5, .int i6, .int i7]))]) hx hb hml hg hown hK hP hD hS hA (s_X2_isShort l D dA x11 _) [] [0] rfl (by decide) rfl (by decide) (by decide) q1069 q155 q1067 q1068 (by decide +kernel) ⟨(Nat.le_of_ble_eq_true rfl), (Nat.le_of_ble_eq_true rfl)⟩ rfl hl.1 rfl (Nat.le_of_ble_eq_true rfl) dX7_displacementSize_37 ⟨(Nat.le_of_ble_eq_true rfl), (Nat.le_of_ble_eq_true rfl)⟩ (fun x30 u29 H locs w31 hP hD hS => ?_)
          refine W.widen (k := 0) (n := 0) (Nat.le_of_ble_eq_true rfl) (Nat.le_of_ble_eq_true rfl) ?_
          have hP : va_P D vwC [(t0, .inr (7, [.int i0, .int i1, .int i2, .int i3, .int i4, .int i5, .int i6, .int i7]))] H := hP
          have hD : va_D A [(t0, .inr (7, [.int i0, .int i1, .int i2, .int i3, .int i4, .int i5, .int i6, .int i7]))] := hD
          have g32 := w31
          have g32 : 0 ≤ x30.toInt ∧ x30.toInt ≤ 1 := g32
          refine lv_if_eq (tgt := 47) hx hb dX7_displacementSize_40 (by decide) (fun k33 => ?_) (fun k33 => ?_)
          · have g34 : x30.toInt = 0 := gi_eq (rfl : x30.toInt = x30.toInt) (by decide : (0 : Int32).toInt = 0) k33
            refine lv_iconst (v := 2) hx hb dX7_displacementSize_47 (by decide) ?_
            exact g_iret hx hb hr rfl hlocks hK () hP hD hS (show 0 ≤ ((2 : Int32)).toInt ∧ ((2 : Int32)).toInt ≤ 2 from by decide) (Nat.le_of_ble_eq_true rfl) (Nat.le_of_ble_eq_true rfl) dX7_displacementSize_48
          · have g35 : x30.toInt ≠ 0 := gi_neq (rfl : x30.toInt = x30.toInt) (by decide : (0 : Int32).toInt = 0) k33
            refine lv_iconst (v := 1) hx hb dX7_displacementSize_43 (by decide) ?_
            refine lv_goto (tgt := 48) hx hb dX7_displacementSize_44 (by decide) ?_
            exact g_iret hx hb hr rfl hlocks hK () hP hD hS (show 0 ≤ ((1 : Int32)).toInt ∧ ((1 : Int32)).toInt ≤ 2 from by decide) (Nat.le_of_ble_eq_true rfl) (Nat.le_of_ble_eq_true rfl) dX7_displacementSize_48
        · have g36 : x25.toInt ≠ 6 := gi_neq (rfl : x25.toInt = x25.toInt) (by decide : (6 : Int32).toInt = 6) k27
          refine lv_iconst (v := 0) hx hb dX7_displacementSize_34 (by decide) ?_
          exact g_iret hx hb hr rfl hlocks hK () hP hD hS (show 0 ≤ ((0 : Int32)).toInt ∧ ((0 : Int32)).toInt ≤ 2 from by decide) (Nat.le_of_ble_eq_true rfl) (Nat.le_of_ble_eq_true rfl) dX7_displacementSize_35
    · have g37 : i3.toInt ≥ 0 := gi_nlt (rfl : i3.toInt = i3.toInt) (by decide : (0 : Int32).toInt = 0) k8
      refine lv_iconst (v := 2) hx hb dX7_displacementSize_14 (by decide) ?_
      exact g_iret hx hb hr rfl hlocks hK () hP hD hS (show 0 ≤ ((2 : Int32)).toInt ∧ ((2 : Int32)).toInt ≤ 2 from by decide) (Nat.le_of_ble_eq_true rfl) (Nat.le_of_ble_eq_true rfl) dX7_displacementSize_15
set_option maxHeartbeats 4000000 in
set_option maxRecDepth 100000 in
theorem s_X0_bytesOf (l : Launch) (D : va_G) (dA : Nat → ClassId) (t0 : Nat) (a0 : Int32) (c0 : Nat) (c1 : Nat) (c2 : Nat) (c3 : Nat) (c4 : Nat) (c5 : Nat) (c6 : Nat) (i7 : Int32) (m0 : Nat → Int32) (m1 : Nat → Int32) (p0 : 0 ≤ a0.toInt ∧ a0.toInt ≤ 247) (p1 : 0 ≤ i7.toInt ∧ i7.toInt ≤ 248) (sz : Nat) : Met l yX0_bytesOf (gws yX0_bytesOf cX0_bytesOf 2 (some .int)) (gR 1 0 0) (gPre D dA [.ref t0, .int a0] [(t0, .inr (0, [.ref c0, .ref c1, .ref c2, .ref c3, .ref c4, .ref c5, .ref c6, .int i7])), (c0, .inl (dA 0, 248, .inl m0)), (c1, .inl (dA 0, 248, .inl m1))] sz) (va_Qi (fun (r : Int32) (u : Unit) => True) (gAt D dA (va_A [(t0, .inr (0, [.ref c0, .ref c1, .ref c2, .ref c3, .ref c4, .ref c5, .ref c6, .int i7])), (c0, .inl (dA 0, 248, .inl m0)), (c1, .inl (dA 0, 248, .inl m1))] sz) (fun u : Unit => [(t0, .inr (0, [.ref c0, .ref c1, .ref c2, .ref c3, .ref c4, .ref c5, .ref c6, .int i7])), (c0, .inl (dA 0, 248, .inl m0)), (c1, .inl (dA 0, 248, .inl m1))])) (va_A [(t0, .inr (0, [.ref c0, .ref c1, .ref c2, .ref c3, .ref c4, .ref c5, .ref c6, .int i7])), (c0, .inl (dA 0, 248, .inl m0)), (c1, .inl (dA 0, 248, .inl m1))] sz)) 0 0 (va_A [(t0, .inr (0, [.ref c0, .ref c1, .ref c2, .ref c3, .ref c4, .ref c5, .ref c6, .int i7])), (c0, .inl (dA 0, 248, .inl m0)), (c1, .inl (dA 0, 248, .inl m1))] sz) := by
  refine Met.ofW (cc := cX0_bytesOf) (maxL := 2) (ret := (some .int)) (by decide) rfl ?_
  intro p e s m args below meth c s₁ B hml hv
  obtain ⟨rfl, hsz, hP, hK, hD0⟩ := hv
  have hx := B.exec
  have hb := B.bytes
  have hr := B.returns
  have hts := atoms_spec (ws := gws yX0_bytesOf cX0_bytesOf 2 (some .int)) B.pre
  have hg : ∀ w ∈ gw, w.before _ s = true := fun w h => hts w (List.mem_cons_of_mem _ h)
  have hown : s.vm.findClass RX0 = some m.cls := findClass_of_methodNamed B.named
  have hlocks := B.notSynchronized
  subst hsz
  have hD := hD0.self (sz := s.heap.size)
  generalize hAe : va_A [(t0, .inr (0, [.ref c0, .ref c1, .ref c2, .ref c3, .ref c4, .ref c5, .ref c6, .int i7])), (c0, .inl (dA 0, 248, .inl m0)), (c1, .inl (dA 0, 248, .inl m1))] s.heap.size = A at hD ⊢
  have hA : ∀ q : Nat, s.heap.size ≤ q → A q := fun q h => by rw [← hAe]; exact Or.inr h
  have hS : va_S A s.heap s.heap [] := va_S.rf
  have hP : va_P D vwC [(t0, .inr (0, [.ref c0, .ref c1, .ref c2, .ref c3, .ref c4, .ref c5, .ref c6, .int i7])), (c0, .inl (dA 0, 248, .inl m0)), (c1, .inl (dA 0, 248, .inl m1))] s.heap := hP
  have hl := lv_entry ([.ref t0, .int a0]) (n := 2) (Nat.le_of_ble_eq_true rfl)
  rw [lg_entry_eq]
  generalize (lg_sl ([.ref t0, .int a0]) ++ List.replicate (2 - (lg_sl ([.ref t0, .int a0])).length) Slot.unset).toArray = ls at hl ⊢
  have hl : lv_has ls 2 [(0, .ref t0), (1, .int a0)] := hl
  refine lv_aload_n hx hb dX0_bytesOf_0 rfl (lv_at hl 0 rfl) ?_
  refine g_get hx hb hg hown hK hP 0 rfl rfl inX0 0 (by decide) q257 rfl dX0_bytesOf_1 ?_
  refine lv_iload_n hx hb dX0_bytesOf_4 rfl (lv_at hl 1 rfl) ?_
  refine va_iald hx hb hK hP 1 0 rfl rfl (by rw [vp_in_iff]; omega) dX0_bytesOf_5 ?_
  refine lv_topi (fun x1 e2 => ?_)
  by_cases s3 : x1 = 4
  · have g4 : x1.toInt = 4 := by rw [s3]; decide
    refine lv_tableIn (tgt := 56) hx hb dX0_bytesOf_6 (by rw [s3]; decide) (by rw [s3]; decide) (by rw [s3]; rfl) (by decide) ?_
    refine lv_iconst (v := 1) hx hb dX0_bytesOf_56 (by decide) ?_
    exact g_iret hx hb hr rfl hlocks hK () hP hD hS trivial (Nat.le_of_ble_eq_true rfl) (Nat.le_of_ble_eq_true rfl) dX0_bytesOf_57
  by_cases s5 : x1 = 5
  · have g6 : x1.toInt = 5 := by rw [s5]; decide
    refine lv_tableIn (tgt := 58) hx hb dX0_bytesOf_6 (by rw [s5]; decide) (by rw [s5]; decide) (by rw [s5]; rfl) (by decide) ?_
    refine lv_aload_n hx hb dX0_bytesOf_58 rfl (lv_at hl 0 rfl) ?_
    refine g_get hx hb hg hown hK hP 0 rfl rfl inX0 1 (by decide) q259 rfl dX0_bytesOf_59 ?_
    refine lv_iload_n hx hb dX0_bytesOf_62 rfl (lv_at hl 1 rfl) ?_
    refine va_iald hx hb hK hP 2 0 rfl rfl (by rw [vp_in_iff]; omega) dX0_bytesOf_63 ?_
    refine lv_topi (fun x7 e8 => ?_)
    exact g_iret hx hb hr rfl hlocks hK () hP hD hS trivial (Nat.le_of_ble_eq_true rfl) (Nat.le_of_ble_eq_true rfl) dX0_bytesOf_64
  by_cases s9 : x1 = 6
  · have g10 : x1.toInt = 6 := by rw [s9]; decide
    refine lv_tableIn (tgt := 65) hx hb dX0_bytesOf_6 (by rw [s9]; decide) (by rw [s9]; decide) (by rw [s9]; rfl) (by decide) ?_
    refine lv_iconst (v := 2) hx hb dX0_bytesOf_65 (by decide) ?_
    exact g_iret hx hb hr rfl hlocks hK () hP hD hS trivial (Nat.le_of_ble_eq_true rfl) (Nat.le_of_ble_eq_true rfl) dX0_bytesOf_66
  by_cases s11 : x1 = 7
  · have g12 : x1.toInt = 7 := by rw [s11]; decide
    refine lv_tableIn (tgt := 65) hx hb dX0_bytesOf_6 (by rw [s11]; decide) (by rw [s11]; decide) (by rw [s11]; rfl) (by decide) ?_
    refine lv_iconst (v := 2) hx hb dX0_bytesOf_65 (by decide) ?_
    exact g_iret hx hb hr rfl hlocks hK () hP hD hS trivial (Nat.le_of_ble_eq_true rfl) (Nat.le_of_ble_eq_true rfl) dX0_bytesOf_66
  by_cases s13 : x1 = 8
  · have g14 : x1.toInt = 8 := by rw [s13]; decide
    refine lv_tableIn (tgt := 65) hx hb dX0_bytesOf_6 (by rw [s13]; decide) (by rw [s13]; decide) (by rw [s13]; rfl) (by decide) ?_
    refine lv_iconst (v := 2) hx hb dX0_bytesOf_65 (by decide) ?_
    exact g_iret hx hb hr rfl hlocks hK () hP hD hS trivial (Nat.le_of_ble_eq_true rfl) (Nat.le_of_ble_eq_true rfl) dX0_bytesOf_66
  by_cases s15 : x1 = 9
  · have g16 : x1.toInt = 9 := by rw [s15]; decide
    refine lv_tableIn (tgt := 58) hx hb dX0_bytesOf_6 (by rw [s15]; decide) (by rw [s15]; decide) (by rw [s15]; rfl) (by decide) ?_
    refine lv_aload_n hx hb dX0_bytesOf_58 rfl (lv_at hl 0 rfl) ?_
    refine g_get hx hb hg hown hK hP 0 rfl rfl inX0 1 (by decide) q259 rfl dX0_bytesOf_59 ?_
    refine lv_iload_n hx hb dX0_bytesOf_62 rfl (lv_at hl 1 rfl) ?_
    refine va_iald hx hb hK hP 2 0 rfl rfl (by rw [vp_in_iff]; omega) dX0_bytesOf_63 ?_
    refine lv_topi (fun x17 e18 => ?_)
    exact g_iret hx hb hr rfl hlocks hK () hP hD hS trivial (Nat.le_of_ble_eq_true rfl) (Nat.le_of_ble_eq_true rfl) dX0_bytesOf_64
  by_cases s19 : x1 = 10
  · have g20 : x1.toInt = 10 := by rw [s19]; decide
    refine lv_tableIn (tgt := 65) hx hb dX0_bytesOf_6 (by rw [s19]; decide) (by rw [s19]; decide) (by rw [s19]; rfl) (by decide) ?_
    refine lv_iconst (v := 2) hx hb dX0_bytesOf_65 (by decide) ?_
    exact g_iret hx hb hr rfl hlocks hK () hP hD hS trivial (Nat.le_of_ble_eq_true rfl) (Nat.le_of_ble_eq_true rfl) dX0_bytesOf_66
  by_cases s21 : x1 = 11
  · have g22 : x1.toInt = 11 := by rw [s21]; decide
    refine lv_tableIn (tgt := 67) hx hb dX0_bytesOf_6 (by rw [s21]; decide) (by rw [s21]; decide) (by rw [s21]; rfl) (by decide) ?_
    refine lv_iconst (v := 3) hx hb dX0_bytesOf_67 (by decide) ?_
    exact g_iret hx hb hr rfl hlocks hK () hP hD hS trivial (Nat.le_of_ble_eq_true rfl) (Nat.le_of_ble_eq_true rfl) dX0_bytesOf_68
  by_cases s23 : x1 = 12
  · have g24 : x1.toInt = 12 := by rw [s23]; decide
    refine lv_tableIn (tgt := 69) hx hb dX0_bytesOf_6 (by rw [s23]; decide) (by rw [s23]; decide) (by rw [s23]; rfl) (by decide) ?_
    refine lv_iconst (v := 5) hx hb dX0_bytesOf_69 (by decide) ?_
    exact g_iret hx hb hr rfl hlocks hK () hP hD hS trivial (Nat.le_of_ble_eq_true rfl) (Nat.le_of_ble_eq_true rfl) dX0_bytesOf_70
  have g25 : x1.toInt ≠ 4 := lv_neT s3 (by decide)
  have g26 : x1.toInt ≠ 5 := lv_neT s5 (by decide)
  have g27 : x1.toInt ≠ 6 := lv_neT s9 (by decide)
  have g28 : x1.toInt ≠ 7 := lv_neT s11 (by decide)
  have g29 : x1.toInt ≠ 8 := lv_neT s13 (by decide)
  have g30 : x1.toInt ≠ 9 := lv_neT s15 (by decide)
  have g31 : x1.toInt ≠ 10 := lv_neT s19 (by decide)
  have g32 : x1.toInt ≠ 11 := lv_neT s21 (by decide)
  have g33 : x1.toInt ≠ 12 := lv_neT s23 (by decide)
  refine lv_tableOut (tgt := 71) hx hb dX0_bytesOf_6 (by omega) (by decide) ?_
  refine lv_iconst (v := 0) hx hb dX0_bytesOf_71 (by decide) ?_
  exact g_iret hx hb hr rfl hlocks hK () hP hD hS trivial (Nat.le_of_ble_eq_true rfl) (Nat.le_of_ble_eq_true rfl) dX0_bytesOf_72
set_option maxHeartbeats 4000000 in
set_option maxRecDepth 100000 in
theorem s_X6_publicNumber_L2 {p : Program} {e : Env} {s : State} {m : MethodId} {args : Array Value} {below : List Frame} {meth : Method} {c : Code} {l : Launch} {D : va_G} {dA : Nat → ClassId} {A : Nat → Prop} (hx : p.tables.exec = Jvm.exec) (hb : c.code = cX6_publicNumber) (hr : meth.sig.returnType = (some .int)) (hml : c.maxLocals = 4) (hown : s.vm.findClass RX6 = some m.cls) (hg : ∀ w ∈ gw, w.before args s = true) (hlocks : meth.locks = false) (hA : ∀ q : Nat, s.heap.size ≤ q → A q) (hK : gK D dA s) {t0 : Nat} {a0 : Int64} {i0 : Int32} {i1 : Int32} {c2 : Nat} {c3 : Nat} {c4 : Nat} {c5 : Nat} {c6 : Nat} {i7 : Int32} {c8 : Nat} {c9 : Nat} {c10 : Nat} {c11 : Nat} {c12 : Nat} {i13 : Int32} {c14 : Nat} {c15 : Nat} {c16 : Nat} {m14 : Nat → Int64} (z0 : 0 ≤ i0.toInt ∧ i0.toInt ≤ 1) (z1 : 0 ≤ i1.toInt ∧ i1.toInt ≤ 24) (z2 : 0 ≤ i7.toInt ∧ i7.toInt ≤ 200) (z3 : 0 ≤ i13.toInt ∧ i13.toInt ≤ 24) : ∀ (n : Nat) (v3 : Int32) , (0 ≤ v3.toInt ∧ v3.toInt ≤ 24) → (i13.toInt - v3.toInt).toNat < n → ∀ (H : Heap) (locs : List Loc) (ls : Array Slot), va_P D vwC [(t0, .inr (6, [.int i0, .int i1, .ref c2, .ref c3, .ref c4, .ref c5, .ref c6, .int i7, .ref c8, .ref c9, .ref c10, .ref c11, .ref c12, .int i13, .ref c14, .ref c15, .ref c16])), (c14, .inl (dA 1, 24, .inr (.inl m14)))] H → va_D A [(t0, .inr (6, [.int i0, .int i1, .ref c2, .ref c3, .ref c4, .ref c5, .ref c6, .int i7, .ref c8, .ref c9, .ref c10, .ref c11, .ref c12, .int i13, .ref c14, .ref c15, .ref c16])), (c14, .inl (dA 1, 24, .inr (.inl m14)))] → va_S A s.heap H locs → lv_has ls 4 [(3, .int v3), (0, .ref t0), (1, .long a0)] → W p l e (gR 1 0 0) s m args below meth c H locs 0 0 (MQ below (va_Qi (fun (r : Int32) (u : Unit) => (-1 ≤ r.toInt ∧ r.toInt ≤ 23)) (gAt D dA A (fun u : Unit => [(t0, .inr (6, [.int i0, .int i1, .ref c2, .ref c3, .ref c4, .ref c5, .ref c6, .int i7, .ref c8, .ref c9, .ref c10, .ref c11, .ref c12, .int i13, .ref c14, .ref c15, .ref c16])), (c14, .inl (dA 1, 24, .inr (.inl m14)))])) A) args s 0 0 A) (F0 m 2 ls []) := by
  intro n
  induction n with
  | zero =>
    intro v3 y0 hn
    exact absurd hn (Nat.not_lt_zero _)
  | succ n ih =>
    intro v3 y0 hn H locs ls hP hD hS hl
    refine lv_iload_n hx hb dX6_publicNumber_2 rfl (lv_at hl 0 rfl) ?_
    refine lv_aload_n hx hb dX6_publicNumber_3 rfl (lv_at hl 1 rfl) ?_
    refine g_get hx hb hg hown hK hP 0 rfl rfl inX6 13 (by decide) q434 rfl dX6_publicNumber_4 ?_
    refine lv_icmp_ge (tgt := 29) hx hb dX6_publicNumber_7 (by decide) (fun k1 => ?_) (fun k1 => ?_)
    · have g2 : i13.toInt ≤ v3.toInt := gi_le (rfl : i13.toInt = i13.toInt) (rfl : v3.toInt = v3.toInt) k1
      refine lv_iconst (v := (-1)) hx hb dX6_publicNumber_29 (by decide) ?_
      exact g_iret hx hb hr rfl hlocks hK () hP hD hS (show -1 ≤ ((-1 : Int32)).toInt ∧ ((-1 : Int32)).toInt ≤ 23 from by decide) (Nat.le_of_ble_eq_true rfl) (Nat.le_of_ble_eq_true rfl) dX6_publicNumber_30
    · have g3 : i13.toInt > v3.toInt := gi_nle (rfl : i13.toInt = i13.toInt) (rfl : v3.toInt = v3.toInt) k1
      refine lv_aload_n hx hb dX6_publicNumber_10 rfl (lv_at hl 1 rfl) ?_
      refine g_get hx hb hg hown hK hP 0 rfl rfl inX6 14 (by decide) q436 rfl dX6_publicNumber_11 ?_
      refine lv_iload_n hx hb dX6_publicNumber_14 rfl (lv_at hl 0 rfl) ?_
      refine va_lald hx hb hK hP 1 1 rfl rfl (by rw [vp_in_iff]; omega) dX6_publicNumber_15 ?_
      refine lv_topl (fun y4 y4e => ?_)
      refine lv_lload_n hx hb dX6_publicNumber_16 rfl (lv_at hl 2 rfl) ?_
      refine W.lcmp hx hb dX6_publicNumber_17 ?_
      refine lv_topi (fun x5 e6 => ?_)
      refine lv_if_ne (tgt := 23) hx hb dX6_publicNumber_18 (by decide) (fun k7 => ?_) (fun k7 => ?_)
      · have g8 : x5.toInt ≠ 0 := gi_neq (rfl : x5.toInt = x5.toInt) (by decide : (0 : Int32).toInt = 0) k7
        obtain ⟨x9, e10⟩ : ∃ y : Int32, y = v3 + 1 := ⟨_, rfl⟩
        have g11 : x9.toInt = v3.toInt + 1 := g_add e10 rfl (by decide) (by omega) (by omega)
        refine lv_iinc (v := x9) (lv' := [(3, .int x9), (0, .ref t0), (1, .long a0)]) hx hb dX6_publicNumber_23 hl (k := 0) rfl (by rw [e10]; rfl) (by decide) rfl (fun ls hl => ?_)
        refine lv_goto (tgt := 2) hx hb dX6_publicNumber_26 (by decide) ?_
        exact ih x9 (by omega) (by omega) _ _ _ (hP.sub [0, 1] rfl) (hD.sub [0, 1] (by decide) rfl) hS (lv_sub hl [0, 1, 2] rfl)
      · have g12 : x5.toInt = 0 := gi_eq (rfl : x5.toInt = x5.toInt) (by decide : (0 : Int32).toInt = 0) k7
        refine lv_iload_n hx hb dX6_publicNumber_21 rfl (lv_at hl 0 rfl) ?_
        exact g_iret hx hb hr rfl hlocks hK () hP hD hS (show -1 ≤ v3.toInt ∧ v3.toInt ≤ 23 from by omega) (Nat.le_of_ble_eq_true rfl) (Nat.le_of_ble_eq_true rfl) dX6_publicNumber_22
set_option maxHeartbeats 4000000 in
set_option maxRecDepth 100000 in
theorem s_X6_publicNumber (l : Launch) (D : va_G) (dA : Nat → ClassId) (t0 : Nat) (a0 : Int64) (i0 : Int32) (i1 : Int32) (c2 : Nat) (c3 : Nat) (c4 : Nat) (c5 : Nat) (c6 : Nat) (i7 : Int32) (c8 : Nat) (c9 : Nat) (c10 : Nat) (c11 : Nat) (c12 : Nat) (i13 : Int32) (c14 : Nat) (c15 : Nat) (c16 : Nat) (m14 : Nat → Int64) (p0 : 0 ≤ i0.toInt ∧ i0.toInt ≤ 1) (p1 : 0 ≤ i1.toInt ∧ i1.toInt ≤ 24) (p2 : 0 ≤ i7.toInt ∧ i7.toInt ≤ 200) (p3 : 0 ≤ i13.toInt ∧ i13.toInt ≤ 24) (sz : Nat) : Met l yX6_publicNumber (gws yX6_publicNumber cX6_publicNumber 4 (some .int)) (gR 1 0 0) (gPre D dA [.ref t0, .long a0] [(t0, .inr (6, [.int i0, .int i1, .ref c2, .ref c3, .ref c4, .ref c5, .ref c6, .int i7, .ref c8, .ref c9, .ref c10, .ref c11, .ref c12, .int i13, .ref c14, .ref c15, .ref c16])), (c14, .inl (dA 1, 24, .inr (.inl m14)))] sz) (va_Qi (fun (r : Int32) (u : Unit) => (-1 ≤ r.toInt ∧ r.toInt ≤ 23)) (gAt D dA (va_A [(t0, .inr (6, [.int i0, .int i1, .ref c2, .ref c3, .ref c4, .ref c5, .ref c6, .int i7, .ref c8, .ref c9, .ref c10, .ref c11, .ref c12, .int i13, .ref c14, .ref c15, .ref c16])), (c14, .inl (dA 1, 24, .inr (.inl m14)))] sz) (fun u : Unit => [(t0, .inr (6, [.int i0, .int i1, .ref c2, .ref c3, .ref c4, .ref c5, .ref c6, .int i7, .ref c8, .ref c9, .ref c10, .ref c11, .ref c12, .int i13, .ref c14, .ref c15, .ref c16])), (c14, .inl (dA 1, 24, .inr (.inl m14)))])) (va_A [(t0, .inr (6, [.int i0, .int i1, .ref c2, .ref c3, .ref c4, .ref c5, .ref c6, .int i7, .ref c8, .ref c9, .ref c10, .ref c11, .ref c12, .int i13, .ref c14, .ref c15, .ref c16])), (c14, .inl (dA 1, 24, .inr (.inl m14)))] sz)) 0 0 (va_A [(t0, .inr (6, [.int i0, .int i1, .ref c2, .ref c3, .ref c4, .ref c5, .ref c6, .int i7, .ref c8, .ref c9, .ref c10, .ref c11, .ref c12, .int i13, .ref c14, .ref c15, .ref c16])), (c14, .inl (dA 1, 24, .inr (.inl m14)))] sz) := by
  refine Met.ofW (cc := cX6_publicNumber) (maxL := 4) (ret := (some .int)) (by decide) rfl ?_
  intro p e s m args below meth c s₁ B hml hv
  obtain ⟨rfl, hsz, hP, hK, hD0⟩ := hv
  have hx := B.exec
  have hb := B.bytes
  have hr := B.returns
  have hts := atoms_spec (ws := gws yX6_publicNumber cX6_publicNumber 4 (some .int)) B.pre
  have hg : ∀ w ∈ gw, w.before _ s = true := fun w h => hts w (List.mem_cons_of_mem _ h)
  have hown : s.vm.findClass RX6 = some m.cls := findClass_of_methodNamed B.named
  have hlocks := B.notSynchronized
  subst hsz
  have hD := hD0.self (sz := s.heap.size)
  generalize hAe : va_A [(t0, .inr (6, [.int i0, .int i1, .ref c2, .ref c3, .ref c4, .ref c5, .ref c6, .int i7, .ref c8, .ref c9, .ref c10, .ref c11, .ref c12, .int i13, .ref c14, .ref c15, .ref c16])), (c14, .inl (dA 1, 24, .inr (.inl m14)))] s.heap.size = A at hD ⊢
  have hA : ∀ q : Nat, s.heap.size ≤ q → A q := fun q h => by rw [← hAe]; exact Or.inr h
  have hS : va_S A s.heap s.heap [] := va_S.rf
  have hP : va_P D vwC [(t0, .inr (6, [.int i0, .int i1, .ref c2, .ref c3, .ref c4, .ref c5, .ref c6, .int i7, .ref c8, .ref c9, .ref c10, .ref c11, .ref c12, .int i13, .ref c14, .ref c15, .ref c16])), (c14, .inl (dA 1, 24, .inr (.inl m14)))] s.heap := hP
  have hl := lv_entry ([.ref t0, .long a0]) (n := 4) (Nat.le_of_ble_eq_true rfl)
  rw [lg_entry_eq]
  generalize (lg_sl ([.ref t0, .long a0]) ++ List.replicate (4 - (lg_sl ([.ref t0, .long a0])).length) Slot.unset).toArray = ls at hl ⊢
  have hl : lv_has ls 4 [(0, .ref t0), (1, .long a0)] := hl
  refine lv_iconst (v := 0) hx hb dX6_publicNumber_0 (by decide) ?_
  refine lv_istore_n (lv' := [(3, .int 0), (0, .ref t0), (1, .long a0)]) hx hb dX6_publicNumber_1 rfl hl (by decide) rfl (fun ls hl => ?_)
  exact s_X6_publicNumber_L2 hx hb hr hml hown hg hlocks hA hK (by have q_0 : (0 : Int32).toInt = 0 := (by decide); omega) (by have q_0 : (0 : Int32).toInt = 0 := (by decide); omega) (by have q_0 : (0 : Int32).toInt = 0 := (by decide); omega) (by have q_0 : (0 : Int32).toInt = 0 := (by decide); omega) _ 0 (by have q_0 : (0 : Int32).toInt = 0 := (by decide); omega) (Nat.lt_succ_self _) _ _ _ (hP.sub [0, 1] rfl) (hD.sub [0, 1] (by decide) rfl) hS (lv_sub hl [0, 1, 2] rfl)
