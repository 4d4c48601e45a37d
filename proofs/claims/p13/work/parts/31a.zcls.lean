theorem q987 : Cond.constant RJ6 265 (1431655765) ∈ gw := gw_in (i := 987) (by decide +kernel) rfl
theorem q988 : Cond.constant RJ6 266 (858993459) ∈ gw := gw_in (i := 988) (by decide +kernel) rfl
theorem q989 : Cond.constant RJ6 267 (252645135) ∈ gw := gw_in (i := 989) (by decide +kernel) rfl
theorem dJ6_bitCount_0f7a4_0 : decode cJ6_bitCount_0f7a4 0 = .ok (.iload_n 0, 1) := by decide +kernel
theorem dJ6_bitCount_0f7a4_1 : decode cJ6_bitCount_0f7a4 1 = .ok (.iload_n 0, 1) := by decide +kernel
theorem dJ6_bitCount_0f7a4_2 : decode cJ6_bitCount_0f7a4 2 = .ok (.iconst 1, 1) := by decide +kernel
theorem dJ6_bitCount_0f7a4_3 : decode cJ6_bitCount_0f7a4 3 = .ok (.iushr, 1) := by decide +kernel
theorem dJ6_bitCount_0f7a4_4 : decode cJ6_bitCount_0f7a4 4 = .ok (.ldc_w 265, 3) := by decide +kernel
theorem dJ6_bitCount_0f7a4_7 : decode cJ6_bitCount_0f7a4 7 = .ok (.iand, 1) := by decide +kernel
theorem dJ6_bitCount_0f7a4_8 : decode cJ6_bitCount_0f7a4 8 = .ok (.isub, 1) := by decide +kernel
theorem dJ6_bitCount_0f7a4_9 : decode cJ6_bitCount_0f7a4 9 = .ok (.istore_n 0, 1) := by decide +kernel
theorem dJ6_bitCount_0f7a4_10 : decode cJ6_bitCount_0f7a4 10 = .ok (.iload_n 0, 1) := by decide +kernel
theorem dJ6_bitCount_0f7a4_11 : decode cJ6_bitCount_0f7a4 11 = .ok (.ldc_w 266, 3) := by decide +kernel
theorem dJ6_bitCount_0f7a4_14 : decode cJ6_bitCount_0f7a4 14 = .ok (.iand, 1) := by decide +kernel
theorem dJ6_bitCount_0f7a4_15 : decode cJ6_bitCount_0f7a4 15 = .ok (.iload_n 0, 1) := by decide +kernel
theorem dJ6_bitCount_0f7a4_16 : decode cJ6_bitCount_0f7a4 16 = .ok (.iconst 2, 1) := by decide +kernel
theorem dJ6_bitCount_0f7a4_17 : decode cJ6_bitCount_0f7a4 17 = .ok (.iushr, 1) := by decide +kernel
theorem dJ6_bitCount_0f7a4_18 : decode cJ6_bitCount_0f7a4 18 = .ok (.ldc_w 266, 3) := by decide +kernel
theorem dJ6_bitCount_0f7a4_21 : decode cJ6_bitCount_0f7a4 21 = .ok (.iand, 1) := by decide +kernel
theorem dJ6_bitCount_0f7a4_22 : decode cJ6_bitCount_0f7a4 22 = .ok (.iadd, 1) := by decide +kernel
theorem dJ6_bitCount_0f7a4_23 : decode cJ6_bitCount_0f7a4 23 = .ok (.istore_n 0, 1) := by decide +kernel
theorem dJ6_bitCount_0f7a4_24 : decode cJ6_bitCount_0f7a4 24 = .ok (.iload_n 0, 1) := by decide +kernel
theorem dJ6_bitCount_0f7a4_25 : decode cJ6_bitCount_0f7a4 25 = .ok (.iload_n 0, 1) := by decide +kernel
theorem dJ6_bitCount_0f7a4_26 : decode cJ6_bitCount_0f7a4 26 = .ok (.iconst 4, 1) := by decide +kernel
theorem dJ6_bitCount_0f7a4_27 : decode cJ6_bitCount_0f7a4 27 = .ok (.iushr, 1) := by decide +kernel
theorem dJ6_bitCount_0f7a4_28 : decode cJ6_bitCount_0f7a4 28 = .ok (.iadd, 1) := by decide +kernel
theorem dJ6_bitCount_0f7a4_29 : decode cJ6_bitCount_0f7a4 29 = .ok (.ldc_w 267, 3) := by decide +kernel
theorem dJ6_bitCount_0f7a4_32 : decode cJ6_bitCount_0f7a4 32 = .ok (.iand, 1) := by decide +kernel
theorem dJ6_bitCount_0f7a4_33 : decode cJ6_bitCount_0f7a4 33 = .ok (.istore_n 0, 1) := by decide +kernel
theorem dJ6_bitCount_0f7a4_34 : decode cJ6_bitCount_0f7a4 34 = .ok (.iload_n 0, 1) := by decide +kernel
theorem dJ6_bitCount_0f7a4_35 : decode cJ6_bitCount_0f7a4 35 = .ok (.iload_n 0, 1) := by decide +kernel
theorem dJ6_bitCount_0f7a4_36 : decode cJ6_bitCount_0f7a4 36 = .ok (.bipush 8, 2) := by decide +kernel
theorem dJ6_bitCount_0f7a4_38 : decode cJ6_bitCount_0f7a4 38 = .ok (.iushr, 1) := by decide +kernel
theorem dJ6_bitCount_0f7a4_39 : decode cJ6_bitCount_0f7a4 39 = .ok (.iadd, 1) := by decide +kernel
theorem dJ6_bitCount_0f7a4_40 : decode cJ6_bitCount_0f7a4 40 = .ok (.istore_n 0, 1) := by decide +kernel
theorem dJ6_bitCount_0f7a4_41 : decode cJ6_bitCount_0f7a4 41 = .ok (.iload_n 0, 1) := by decide +kernel
theorem dJ6_bitCount_0f7a4_42 : decode cJ6_bitCount_0f7a4 42 = .ok (.iload_n 0, 1) := by decide +kernel
theorem dJ6_bitCount_0f7a4_43 : decode cJ6_bitCount_0f7a4 43 = .ok (.bipush 16, 2) := by decide +kernel
theorem dJ6_bitCount_0f7a4_45 : decode cJ6_bitCount_0f7a4 45 = .ok (.iushr, 1) := by decide +kernel
theorem dJ6_bitCount_0f7a4_46 : decode cJ6_bitCount_0f7a4 46 = .ok (.iadd, 1) := by decide +kernel
theorem dJ6_bitCount_0f7a4_47 : decode cJ6_bitCount_0f7a4 47 = .ok (.istore_n 0, 1) := by decide +kernel
theorem dJ6_bitCount_0f7a4_48 : decode cJ6_bitCount_0f7a4 48 = .ok (.iload_n 0, 1) := by decide +kernel
theorem dJ6_bitCount_0f7a4_49 : decode cJ6_bitCount_0f7a4 49 = .ok (.bipush 63, 2) := by decide +kernel
theorem dJ6_bitCount_0f7a4_51 : decode cJ6_bitCount_0f7a4 51 = .ok (.iand, 1) := by decide +kernel
theorem dJ6_bitCount_0f7a4_52 : decode cJ6_bitCount_0f7a4 52 = .ok (.ireturn, 1) := by decide +kernel
theorem dJ7_fill_53178_0 : decode cJ7_fill_53178 0 = .ok (.iconst 0, 1) := by decide +kernel
theorem dJ7_fill_53178_1 : decode cJ7_fill_53178 1 = .ok (.istore_n 2, 1) := by decide +kernel
theorem dJ7_fill_53178_2 : decode cJ7_fill_53178 2 = .ok (.aload_n 0, 1) := by decide +kernel
theorem dJ7_fill_53178_3 : decode cJ7_fill_53178 3 = .ok (.arraylength, 1) := by decide +kernel
theorem dJ7_fill_53178_4 : decode cJ7_fill_53178 4 = .ok (.istore_n 3, 1) := by decide +kernel
theorem dJ7_fill_53178_5 : decode cJ7_fill_53178 5 = .ok (.iload_n 2, 1) := by decide +kernel
theorem dJ7_fill_53178_6 : decode cJ7_fill_53178 6 = .ok (.iload_n 3, 1) := by decide +kernel
theorem dJ7_fill_53178_7 : decode cJ7_fill_53178 7 = .ok (.if_icmp .ge 13, 3) := by decide +kernel
theorem dJ7_fill_53178_20 : decode cJ7_fill_53178 20 = .ok (.return_, 1) := by decide +kernel
theorem dJ7_fill_53178_10 : decode cJ7_fill_53178 10 = .ok (.aload_n 0, 1) := by decide +kernel
theorem dJ7_fill_53178_11 : decode cJ7_fill_53178 11 = .ok (.iload_n 2, 1) := by decide +kernel
theorem dJ7_fill_53178_12 : decode cJ7_fill_53178 12 = .ok (.iload_n 1, 1) := by decide +kernel
theorem dJ7_fill_53178_13 : decode cJ7_fill_53178 13 = .ok (.iastore, 1) := by decide +kernel
theorem dJ7_fill_53178_14 : decode cJ7_fill_53178 14 = .ok (.iinc 2 1, 3) := by decide +kernel
theorem dJ7_fill_53178_17 : decode cJ7_fill_53178 17 = .ok (.goto (-12), 3) := by decide +kernel
def wpJ6_bitCount_0f7a4 (a0 : Int) (σ : ZS) (Q : Int → ZS → Prop) : Prop := (0 ≤ a0 ∧ a0 ≤ 2147483647) ∧ (0 ≤ (a0 - (zand (a0 / 2) 1431655765)) ∧ (a0 - (zand (a0 / 2) 1431655765)) ≤ 2147483647) ∧ (0 ≤ ((zand (a0 - (zand (a0 / 2) 1431655765)) 858993459) + (zand ((a0 - (zand (a0 / 2) 1431655765)) / 4) 858993459)) ∧ ((zand (a0 - (zand (a0 / 2) 1431655765)) 858993459) + (zand ((a0 - (zand (a0 / 2) 1431655765)) / 4) 858993459)) ≤ 2147483647) ∧ (0 ≤ (zand (((zand (a0 - (zand (a0 / 2) 1431655765)) 858993459) + (zand ((a0 - (zand (a0 / 2) 1431655765)) / 4) 858993459)) + (((zand (a0 - (zand (a0 / 2) 1431655765)) 858993459) + (zand ((a0 - (zand (a0 / 2) 1431655765)) / 4) 858993459)) / 16)) 252645135) ∧ (zand (((zand (a0 - (zand (a0 / 2) 1431655765)) 858993459) + (zand ((a0 - (zand (a0 / 2) 1431655765)) / 4) 858993459)) + (((zand (a0 - (zand (a0 / 2) 1431655765)) 858993459) + (zand ((a0 - (zand (a0 / 2) 1431655765)) / 4) 858993459)) / 16)) 252645135) ≤ 2147483647) ∧ (0 ≤ ((zand (((zand (a0 - (zand (a0 / 2) 1431655765)) 858993459) + (zand ((a0 - (zand (a0 / 2) 1431655765)) / 4) 858993459)) + (((zand (a0 - (zand (a0 / 2) 1431655765)) 858993459) + (zand ((a0 - (zand (a0 / 2) 1431655765)) / 4) 858993459)) / 16)) 252645135) + ((zand (((zand (a0 - (zand (a0 / 2) 1431655765)) 858993459) + (zand ((a0 - (zand (a0 / 2) 1431655765)) / 4) 858993459)) + (((zand (a0 - (zand (a0 / 2) 1431655765)) 858993459) + (zand ((a0 - (zand (a0 / 2) 1431655765)) / 4) 858993459)) / 16)) 252645135) / 256)) ∧ ((zand (((zand (a0 - (zand (a0 / 2) 1431655765)) 858993459) + (zand ((a0 - (zand (a0 / 2) 1431655765)) / 4) 858993459)) + (((zand (a0 - (zand (a0 / 2) 1431655765)) 858993459) + (zand ((a0 - (zand (a0 / 2) 1431655765)) / 4) 858993459)) / 16)) 252645135) + ((zand (((zand (a0 - (zand (a0 / 2) 1431655765)) 858993459) + (zand ((a0 - (zand (a0 / 2) 1431655765)) / 4) 858993459)) + (((zand (a0 - (zand (a0 / 2) 1431655765)) 858993459) + (zand ((a0 - (zand (a0 / 2) 1431655765)) / 4) 858993459)) / 16)) 252645135) / 256)) ≤ 2147483647) ∧ Q ((((zand (((zand (a0 - (zand (a0 / 2) 1431655765)) 858993459) + (zand ((a0 - (zand (a0 / 2) 1431655765)) / 4) 858993459)) + (((zand (a0 - (zand (a0 / 2) 1431655765)) 858993459) + (zand ((a0 - (zand (a0 / 2) 1431655765)) / 4) 858993459)) / 16)) 252645135) + ((zand (((zand (a0 - (zand (a0 / 2) 1431655765)) 858993459) + (zand ((a0 - (zand (a0 / 2) 1431655765)) / 4) 858993459)) + (((zand (a0 - (zand (a0 / 2) 1431655765)) 858993459) + (zand ((a0 - (zand (a0 / 2) 1431655765)) / 4) 858993459)) / 16)) 252645135) / 256)) + (((zand (((zand (a0 - (zand (a0 / 2) 1431655765)) 858993459) + (zand ((a0 - (zand (a0 / 2) 1431655765)) / 4) 858993459)) + (((zand (a0 - (zand (a0 / 2) 1431655765)) 858993459) + (zand ((a0 - (zand (a0 / 2) 1431655765)) / 4) 858993459)) / 16)) 252645135) + ((zand (((zand (a0 - (zand (a0 / 2) 1431655765)) 858993459) + (zand ((a0 - (zand (a0 / 2) 1431655765)) / 4) 858993459)) + (((zand (a0 - (zand (a0 / 2) 1431655765)) 858993459) + (zand ((a0 - (zand (a0 / 2) 1431655765)) / 4) 858993459)) / 16)) 252645135) / 256)) / 65536)) % 64) σ
set_option maxHeartbeats 4000000 in
set_option maxRecDepth 100000 in
theorem kJ6_bitCount_0f7a4 (l : Launch) (D : va_G) (dA : Nat → ClassId) (ad : Int → Nat → Nat) (a0 : Int) (σ : ZS) (Q : Int → ZS → Prop) (sz : Nat) (hw : wpJ6_bitCount_0f7a4 a0 σ Q) : Met l yJ6_bitCount_0f7a4 (gws yJ6_bitCount_0f7a4 cJ6_bitCount_0f7a4 1 (some .int)) (gR 1 0 0) (gPre D dA [.int (Int32.ofInt a0)] (zC dA ad σ) sz) (va_Qi (zQi Q) (gAt D dA (va_A (zC dA ad σ) sz) (zC dA ad)) (va_A (zC dA ad σ) sz)) 0 0 (va_A (zC dA ad σ) sz) := by
  refine Met.ofW (cc := cJ6_bitCount_0f7a4) (maxL := 1) (ret := (some .int)) (by decide) rfl ?_
  intro p e s m args below meth c s₁ B hml hv
  obtain ⟨rfl, hsz, hP, hK, hD0⟩ := hv
  have hx := B.exec
  have hb := B.bytes
  have hr := B.returns
  have hts := atoms_spec (ws := gws yJ6_bitCount_0f7a4 cJ6_bitCount_0f7a4 1 (some .int)) B.pre
  have hg : ∀ w ∈ gw, w.before _ s = true := fun w h => hts w (List.mem_cons_of_mem _ h)
  have hown : s.vm.findClass RJ6 = some m.cls := findClass_of_methodNamed B.named
  have hlocks := B.notSynchronized
  subst hsz
  have hD := hD0.self (sz := s.heap.size)
  generalize hAe : va_A (zC dA ad σ) s.heap.size = A at hD ⊢
  have hA : ∀ q : Nat, s.heap.size ≤ q → A q := fun q h => by rw [← hAe]; exact Or.inr h
  have hS : va_S A s.heap s.heap [] := va_S.rf
  have hl := lv_entry ([.int (Int32.ofInt a0)]) (n := 1) (Nat.le_of_ble_eq_true rfl)
  rw [lg_entry_eq]
  generalize (lg_sl ([.int (Int32.ofInt a0)]) ++ List.replicate (1 - (lg_sl ([.int (Int32.ofInt a0)])).length) Slot.unset).toArray = ls at hl ⊢
  have hl : lv_has ls 1 [(0, .int (Int32.ofInt a0))] := hl
  have hret : ∀ (v : Int) (σ : ZS) (H : Heap) (locs : List Loc) (ls : Array Slot) (pc : Nat), Q v σ → va_P D vwC (zC dA ad σ) H → va_D A (zC dA ad σ) → va_S A s.heap H locs → decode cJ6_bitCount_0f7a4 pc = .ok (.ireturn, 1) → W p l e (gR 1 0 0) s m #[.int (Int32.ofInt a0)] below meth c H locs 0 0 (MQ below (va_Qi (zQi Q) (gAt D dA A (zC dA ad)) A) #[.int (Int32.ofInt a0)] s 0 0 A) (F0 m pc ls [.int (Int32.ofInt v)]) := fun v σ H locs ls pc hw hP hD hS hd => g_iret hx hb hr rfl hlocks hK σ hP hD hS ⟨v, rfl, hw⟩ (Nat.le_of_ble_eq_true rfl) (Nat.le_of_ble_eq_true rfl) hd
  generalize MQ below (va_Qi (zQi Q) (gAt D dA A (zC dA ad)) A) #[.int (Int32.ofInt a0)] s 0 0 A = QQ at hret ⊢
  unfold wpJ6_bitCount_0f7a4 at hw
  refine lv_iload_n hx hb dJ6_bitCount_0f7a4_0 rfl (lv_at hl 0 rfl) ?_
  refine lv_iload_n hx hb dJ6_bitCount_0f7a4_1 rfl (lv_at hl 0 rfl) ?_
  refine lv_iconst (v := Int32.ofInt 1) hx hb dJ6_bitCount_0f7a4_2 (by decide) ?_
  obtain ⟨o1, hw⟩ := hw
  refine z_iushrK (M := 2) hx hb 1 (by decide) (by decide) o1 dJ6_bitCount_0f7a4_3 ?_
  refine lv_ldcw hx hb hown (hg _ q987) dJ6_bitCount_0f7a4_4 ?_
  refine g_nrm (y := Int32.ofInt 1431655765) (by decide) ?_
  refine z_iand hx hb dJ6_bitCount_0f7a4_7 ?_
  refine z_isub hx hb dJ6_bitCount_0f7a4_8 ?_
  refine lv_istore_n (lv' := [(0, .int (Int32.ofInt (a0 - (zand (a0 / 2) 1431655765))))]) hx hb dJ6_bitCount_0f7a4_9 rfl hl (by decide) rfl (fun ls hl => ?_)
  refine lv_iload_n hx hb dJ6_bitCount_0f7a4_10 rfl (lv_at hl 0 rfl) ?_
  refine lv_ldcw hx hb hown (hg _ q988) dJ6_bitCount_0f7a4_11 ?_
  refine g_nrm (y := Int32.ofInt 858993459) (by decide) ?_
  refine z_iand hx hb dJ6_bitCount_0f7a4_14 ?_
  refine lv_iload_n hx hb dJ6_bitCount_0f7a4_15 rfl (lv_at hl 0 rfl) ?_
  refine lv_iconst (v := Int32.ofInt 2) hx hb dJ6_bitCount_0f7a4_16 (by decide) ?_
  obtain ⟨o2, hw⟩ := hw
  refine z_iushrK (M := 4) hx hb 2 (by decide) (by decide) o2 dJ6_bitCount_0f7a4_17 ?_
  refine lv_ldcw hx hb hown (hg _ q988) dJ6_bitCount_0f7a4_18 ?_
  refine g_nrm (y := Int32.ofInt 858993459) (by decide) ?_
  refine z_iand hx hb dJ6_bitCount_0f7a4_21 ?_
  refine z_iadd hx hb dJ6_bitCount_0f7a4_22 ?_
  refine lv_istore_n (lv' := [(0, .int (Int32.ofInt ((zand (a0 - (zand (a0 / 2) 1431655765)) 858993459) + (zand ((a0 - (zand (a0 / 2) 1431655765)) / 4) 858993459))))]) hx hb dJ6_bitCount_0f7a4_23 rfl hl (by decide) rfl (fun ls hl => ?_)
  refine lv_iload_n hx hb dJ6_bitCount_0f7a4_24 rfl (lv_at hl 0 rfl) ?_
  refine lv_iload_n hx hb dJ6_bitCount_0f7a4_25 rfl (lv_at hl 0 rfl) ?_
  refine lv_iconst (v := Int32.ofInt 4) hx hb dJ6_bitCount_0f7a4_26 (by decide) ?_
  obtain ⟨o3, hw⟩ := hw
  refine z_iushrK (M := 16) hx hb 4 (by decide) (by decide) o3 dJ6_bitCount_0f7a4_27 ?_
  refine z_iadd hx hb dJ6_bitCount_0f7a4_28 ?_
  refine lv_ldcw hx hb hown (hg _ q989) dJ6_bitCount_0f7a4_29 ?_
  refine g_nrm (y := Int32.ofInt 252645135) (by decide) ?_
  refine z_iand hx hb dJ6_bitCount_0f7a4_32 ?_
  refine lv_istore_n (lv' := [(0, .int (Int32.ofInt (zand (((zand (a0 - (zand (a0 / 2) 1431655765)) 858993459) + (zand ((a0 - (zand (a0 / 2) 1431655765)) / 4) 858993459)) + (((zand (a0 - (zand (a0 / 2) 1431655765)) 858993459) + (zand ((a0 - (zand (a0 / 2) 1431655765)) / 4) 858993459)) / 16)) 252645135)))]) hx hb dJ6_bitCount_0f7a4_33 rfl hl (by decide) rfl (fun ls hl => ?_)
  refine lv_iload_n hx hb dJ6_bitCount_0f7a4_34 rfl (lv_at hl 0 rfl) ?_
  refine lv_iload_n hx hb dJ6_bitCount_0f7a4_35 rfl (lv_at hl 0 rfl) ?_
  refine lv_bipush (v := Int32.ofInt 8) hx hb dJ6_bitCount_0f7a4_36 (by decide) ?_
  obtain ⟨o4, hw⟩ := hw
  refine z_iushrK (M := 256) hx hb 8 (by decide) (by decide) o4 dJ6_bitCount_0f7a4_38 ?_
  refine z_iadd hx hb dJ6_bitCount_0f7a4_39 ?_
  refine lv_istore_n (lv' := [(0, .int (Int32.ofInt ((zand (((zand (a0 - (zand (a0 / 2) 1431655765)) 858993459) + (zand ((a0 - (zand (a0 / 2) 1431655765)) / 4) 858993459)) + (((zand (a0 - (zand (a0 / 2) 1431655765)) 858993459) + (zand ((a0 - (zand (a0 / 2) 1431655765)) / 4) 858993459)) / 16)) 252645135) + ((zand (((zand (a0 - (zand (a0 / 2) 1431655765)) 858993459) + (zand ((a0 - (zand (a0 / 2) 1431655765)) / 4) 858993459)) + (((zand (a0 - (zand (a0 / 2) 1431655765)) 858993459) + (zand ((a0 - (zand (a0 / 2) 1431655765)) / 4) 858993459)) / 16)) 252645135) / 256))))]) hx hb dJ6_bitCount_0f7a4_40 rfl hl (by decide) rfl (fun ls hl => ?_)
  refine lv_iload_n hx hb dJ6_bitCount_0f7a4_41 rfl (lv_at hl 0 rfl) ?_
  refine lv_iload_n hx hb dJ6_bitCount_0f7a4_42 rfl (lv_at hl 0 rfl) ?_
  refine lv_bipush (v := Int32.ofInt 16) hx hb dJ6_bitCount_0f7a4_43 (by decide) ?_
  obtain ⟨o5, hw⟩ := hw
  refine z_iushrK (M := 65536) hx hb 16 (by decide) (by decide) o5 dJ6_bitCount_0f7a4_45 ?_
  refine z_iadd hx hb dJ6_bitCount_0f7a4_46 ?_
  refine lv_istore_n (lv' := [(0, .int (Int32.ofInt (((zand (((zand (a0 - (zand (a0 / 2) 1431655765)) 858993459) + (zand ((a0 - (zand (a0 / 2) 1431655765)) / 4) 858993459)) + (((zand (a0 - (zand (a0 / 2) 1431655765)) 858993459) + (zand ((a0 - (zand (a0 / 2) 1431655765)) / 4) 858993459)) / 16)) 252645135) + ((zand (((zand (a0 - (zand (a0 / 2) 1431655765)) 858993459) + (zand ((a0 - (zand (a0 / 2) 1431655765)) / 4) 858993459)) + (((zand (a0 - (zand (a0 / 2) 1431655765)) 858993459) + (zand ((a0 - (zand (a0 / 2) 1431655765)) / 4) 858993459)) / 16)) 252645135) / 256)) + (((zand (((zand (a0 - (zand (a0 / 2) 1431655765)) 858993459) + (zand ((a0 - (zand (a0 / 2) 1431655765)) / 4) 858993459)) + (((zand (a0 - (zand (a0 / 2) 1431655765)) 858993459) + (zand ((a0 - (zand (a0 / 2) 1431655765)) / 4) 858993459)) / 16)) 252645135) + ((zand (((zand (a0 - (zand (a0 / 2) 1431655765)) 858993459) + (zand ((a0 - (zand (a0 / 2) 1431655765)) / 4) 858993459)) + (((zand (a0 - (zand (a0 / 2) 1431655765)) 858993459) + (zand ((a0 - (zand (a0 / 2) 1431655765)) / 4) 858993459)) / 16)) 252645135) / 256)) / 65536))))]) hx hb dJ6_bitCount_0f7a4_47 rfl hl (by decide) rfl (fun ls hl => ?_)
  refine lv_iload_n hx hb dJ6_bitCount_0f7a4_48 rfl (lv_at hl 0 rfl) ?_
  refine lv_bipush (v := Int32.ofInt 63) hx hb dJ6_bitCount_0f7a4_49 (by decide) ?_
  refine z_iandK (M := 64) hx hb 6 (by decide) (by decide) (by decide) dJ6_bitCount_0f7a4_51 ?_
  exact hret ((((zand (((zand (a0 - (zand (a0 / 2) 1431655765)) 858993459) + (zand ((a0 - (zand (a0 / 2) 1431655765)) / 4) 858993459)) + (((zand (a0 - (zand (a0 / 2) 1431655765)) 858993459) + (zand ((a0 - (zand (a0 / 2) 1431655765)) / 4) 858993459)) / 16)) 252645135) + ((zand (((zand (a0 - (zand (a0 / 2) 1431655765)) 858993459) + (zand ((a0 - (zand (a0 / 2) 1431655765)) / 4) 858993459)) + (((zand (a0 - (zand (a0 / 2) 1431655765)) 858993459) + (zand ((a0 - (zand (a0 / 2) 1431655765)) / 4) 858993459)) / 16)) 252645135) / 256)) + (((zand (((zand (a0 - (zand (a0 / 2) 1431655765)) 858993459) + (zand ((a0 - (zand (a0 / 2) 1431655765)) / 4) 858993459)) + (((zand (a0 - (zand (a0 / 2) 1431655765)) 858993459) + (zand ((a0 - (zand (a0 / 2) 1431655765)) / 4) 858993459)) / 16)) 252645135) + ((zand (((zand (a0 - (zand (a0 / 2) 1431655765)) 858993459) + (zand ((a0 - (zand (a0 / 2) 1431655765)) / 4) 858993459)) + (((zand (a0 - (zand (a0 / 2) 1431655765)) 858993459) + (zand ((a0 - (zand (a0 / 2) 1431655765)) / 4) 858993459)) / 16)) 252645135) / 256)) / 65536)) % 64) σ _ _ _ _ hw hP hD hS dJ6_bitCount_0f7a4_52
def wpbJ7_fill_53178_15_3_5 (K5 : Int → ZS → Prop) (v1 v3 v2 : Int) (σ : ZS) (Q : ZS → Prop) : Prop := (-2147483648 ≤ v2 ∧ v2 ≤ 2147483647) ∧ (-2147483648 ≤ v3 ∧ v3 ≤ 2147483647) ∧ (v3 ≤ v2 → Q σ) ∧ (¬ v3 ≤ v2 → (0 ≤ v2 ∧ v2 < 60) ∧ K5 (v2 + 1) (zsA σ 15 3 v2 v1))
def wpJ7_fill_53178_15_3_5 (v1 v2 v3 : Int) (σ : ZS) (Q : ZS → Prop) : Prop := lfp1 (fun K5 v2 σ => wpbJ7_fill_53178_15_3_5 K5 v1 v3 v2 σ Q) v2 σ
def wpJ7_fill_53178_15_3 (a1 : Int) (σ : ZS) (Q : ZS → Prop) : Prop := wpJ7_fill_53178_15_3_5 a1 0 60 σ Q
set_option maxHeartbeats 4000000 in
set_option maxRecDepth 100000 in
theorem kJ7_fill_53178_15_3 (l : Launch) (D : va_G) (dA : Nat → ClassId) (ad : Int → Nat → Nat) (a1 : Int) (σ : ZS) (Q : ZS → Prop) (sz : Nat) (hw : wpJ7_fill_53178_15_3 a1 σ Q) : Met l yJ7_fill_53178 (gws yJ7_fill_53178 cJ7_fill_53178 4 none) (gR 1 0 0) (gPre D dA [.ref (ad 15 3), .int (Int32.ofInt a1)] (zC dA ad σ) sz) (va_Qv Q (gAt D dA (va_A (zC dA ad σ) sz) (zC dA ad)) (va_A (zC dA ad σ) sz)) 0 0 (va_A (zC dA ad σ) sz) := by
  refine Met.ofW (cc := cJ7_fill_53178) (maxL := 4) (ret := none) (by decide) rfl ?_
  intro p e s m args below meth c s₁ B hml hv
  obtain ⟨rfl, hsz, hP, hK, hD0⟩ := hv
  have hx := B.exec
  have hb := B.bytes
  have hr := B.returns
  have hts := atoms_spec (ws := gws yJ7_fill_53178 cJ7_fill_53178 4 none) B.pre
  have hg : ∀ w ∈ gw, w.before _ s = true := fun w h => hts w (List.mem_cons_of_mem _ h)
  have hown : s.vm.findClass RJ7 = some m.cls := findClass_of_methodNamed B.named
  have hlocks := B.notSynchronized
  subst hsz
  have hD := hD0.self (sz := s.heap.size)
  generalize hAe : va_A (zC dA ad σ) s.heap.size = A at hD ⊢
  have hA : ∀ q : Nat, s.heap.size ≤ q → A q := fun q h => by rw [← hAe]; exact Or.inr h
  have hS : va_S A s.heap s.heap [] := va_S.rf
  have hl := lv_entry ([.ref (ad 15 3), .int (Int32.ofInt a1)]) (n := 4) (Nat.le_of_ble_eq_true rfl)
  rw [lg_entry_eq]
  generalize (lg_sl ([.ref (ad 15 3), .int (Int32.ofInt a1)]) ++ List.replicate (4 - (lg_sl ([.ref (ad 15 3), .int (Int32.ofInt a1)])).length) Slot.unset).toArray = ls at hl ⊢
  have hl : lv_has ls 4 [(0, .ref (ad 15 3)), (1, .int (Int32.ofInt a1))] := hl
  have hret : ∀ (σ : ZS) (H : Heap) (locs : List Loc) (ls : Array Slot) (pc : Nat), Q σ → va_P D vwC (zC dA ad σ) H → va_D A (zC dA ad σ) → va_S A s.heap H locs → decode cJ7_fill_53178 pc = .ok (.return_, 1) → W p l e (gR 1 0 0) s m #[.ref (ad 15 3), .int (Int32.ofInt a1)] below meth c H locs 0 0 (MQ below (va_Qv Q (gAt D dA A (zC dA ad)) A) #[.ref (ad 15 3), .int (Int32.ofInt a1)] s 0 0 A) (F0 m pc ls []) := fun σ H locs ls pc hw hP hD hS hd => g_vret hx hb hr hlocks hK σ hP hD hS hw (Nat.le_of_ble_eq_true rfl) (Nat.le_of_ble_eq_true rfl) hd
  generalize MQ below (va_Qv Q (gAt D dA A (zC dA ad)) A) #[.ref (ad 15 3), .int (Int32.ofInt a1)] s 0 0 A = QQ at hret ⊢
  have b5 : ∀ (v1 v3 : Int) (K5 : Int → ZS → Prop), (∀ (v2 : Int) (σ : ZS), K5 v2 σ → ∀ (H : Heap) (locs : List Loc) (ls : Array Slot), va_P D vwC (zC dA ad σ) H → va_D A (zC dA ad σ) → va_S A s.heap H locs → lv_has ls 4 [(0, .ref (ad 15 3)), (1, .int (Int32.ofInt v1)), (2, .int (Int32.ofInt v2)), (3, .int (Int32.ofInt v3))] → W p l e (gR 1 0 0) s m #[.ref (ad 15 3), .int (Int32.ofInt a1)] below meth c H locs 0 0 QQ (F0 m 5 ls [])) → ∀ (v2 : Int) (σ : ZS), wpbJ7_fill_53178_15_3_5 K5 v1 v3 v2 σ Q → ∀ (H : Heap) (locs : List Loc) (ls : Array Slot), va_P D vwC (zC dA ad σ) H → va_D A (zC dA ad σ) → va_S A s.heap H locs → lv_has ls 4 [(0, .ref (ad 15 3)), (1, .int (Int32.ofInt v1)), (2, .int (Int32.ofInt v2)), (3, .int (Int32.ofInt v3))] → W p l e (gR 1 0 0) s m #[.ref (ad 15 3), .int (Int32.ofInt a1)] below meth c H locs 0 0 QQ (F0 m 5 ls []) := by
    intro v1 v3 K5 hK5
    intro v2 σ hw H locs ls hP hD hS hl
    unfold wpbJ7_fill_53178_15_3_5 at hw
    refine lv_iload_n hx hb dJ7_fill_53178_5 rfl (lv_at hl 2 rfl) ?_
    refine lv_iload_n hx hb dJ7_fill_53178_6 rfl (lv_at hl 3 rfl) ?_
    obtain ⟨o1, hw⟩ := hw
    obtain ⟨o2, hw⟩ := hw
    refine z_icmp_ge (tgt := 20) hx hb o1 o2 dJ7_fill_53178_7 (by decide) (fun k3 => ?_) (fun k3 => ?_)
    · replace hw := hw.1 k3
      exact hret σ _ _ _ _ hw hP hD hS dJ7_fill_53178_20
    · replace hw := hw.2 k3
      refine lv_aload_n hx hb dJ7_fill_53178_10 rfl (lv_at hl 0 rfl) ?_
      refine lv_iload_n hx hb dJ7_fill_53178_11 rfl (lv_at hl 2 rfl) ?_
      refine lv_iload_n hx hb dJ7_fill_53178_12 rfl (lv_at hl 1 rfl) ?_
      obtain ⟨o4, hw⟩ := hw
      refine zsC15_3 (v := v1) hx hb o4 hK hP hD hS dJ7_fill_53178_13 (fun H locs hP hD hS => ?_)
      refine lv_iinc (v := Int32.ofInt (v2 + 1)) (lv' := [(2, .int (Int32.ofInt (v2 + 1))), (0, .ref (ad 15 3)), (1, .int (Int32.ofInt v1)), (3, .int (Int32.ofInt v3))]) hx hb dJ7_fill_53178_14 hl (k := 2) rfl (Int32.ofInt_add _ _).symm (by decide) rfl (fun ls hl => ?_)
      refine lv_goto (tgt := 5) hx hb dJ7_fill_53178_17 (by decide) ?_
      exact hK5 (v2 + 1) (zsA σ 15 3 v2 v1) hw _ _ _ hP hD hS (lv_sub hl [1, 2, 0, 3] rfl)
  have j5 : ∀ (v1 v2 v3 : Int) (σ : ZS), ∀ (H : Heap) (locs : List Loc) (ls : Array Slot), va_P D vwC (zC dA ad σ) H → va_D A (zC dA ad σ) → va_S A s.heap H locs → lv_has ls 4 [(0, .ref (ad 15 3)), (1, .int (Int32.ofInt v1)), (2, .int (Int32.ofInt v2)), (3, .int (Int32.ofInt v3))] → wpJ7_fill_53178_15_3_5 v1 v2 v3 σ Q → W p l e (gR 1 0 0) s m #[.ref (ad 15 3), .int (Int32.ofInt a1)] below meth c H locs 0 0 QQ (F0 m 5 ls []) := by
    intro v1 v2 v3 σ H locs ls hP hD hS hl hw
    exact hw (fun v2 σ => ∀ (H : Heap) (locs : List Loc) (ls : Array Slot), va_P D vwC (zC dA ad σ) H → va_D A (zC dA ad σ) → va_S A s.heap H locs → lv_has ls 4 [(0, .ref (ad 15 3)), (1, .int (Int32.ofInt v1)), (2, .int (Int32.ofInt v2)), (3, .int (Int32.ofInt v3))] → W p l e (gR 1 0 0) s m #[.ref (ad 15 3), .int (Int32.ofInt a1)] below meth c H locs 0 0 QQ (F0 m 5 ls [])) (b5 v1 v3 (fun v2 σ => ∀ (H : Heap) (locs : List Loc) (ls : Array Slot), va_P D vwC (zC dA ad σ) H → va_D A (zC dA ad σ) → va_S A s.heap H locs → lv_has ls 4 [(0, .ref (ad 15 3)), (1, .int (Int32.ofInt v1)), (2, .int (Int32.ofInt v2)), (3, .int (Int32.ofInt v3))] → W p l e (gR 1 0 0) s m #[.ref (ad 15 3), .int (Int32.ofInt a1)] below meth c H locs 0 0 QQ (F0 m 5 ls [])) (fun v2 σ h => h)) _ _ _ hP hD hS hl
  unfold wpJ7_fill_53178_15_3 at hw
  refine lv_iconst (v := Int32.ofInt 0) hx hb dJ7_fill_53178_0 (by decide) ?_
  refine lv_istore_n (lv' := [(2, .int (Int32.ofInt 0)), (0, .ref (ad 15 3)), (1, .int (Int32.ofInt a1))]) hx hb dJ7_fill_53178_1 rfl hl (by decide) rfl (fun ls hl => ?_)
  refine lv_aload_n hx hb dJ7_fill_53178_2 rfl (lv_at hl 1 rfl) ?_
  refine va_alen (v := Int32.ofInt 60) hx hb hK hP 31 0 rfl rfl rfl dJ7_fill_53178_3 ?_
  refine lv_istore_n (lv' := [(3, .int (Int32.ofInt 60)), (2, .int (Int32.ofInt 0)), (0, .ref (ad 15 3)), (1, .int (Int32.ofInt a1))]) hx hb dJ7_fill_53178_4 rfl hl (by decide) rfl (fun ls hl => ?_)
  exact j5 a1 0 60 σ _ _ _ hP hD hS (lv_sub hl [2, 3, 1, 0] rfl) hw
def wpbJ7_fill_53178_17_2_5 (K5 : Int → ZS → Prop) (v1 v3 v2 : Int) (σ : ZS) (Q : ZS → Prop) : Prop := (-2147483648 ≤ v2 ∧ v2 ≤ 2147483647) ∧ (-2147483648 ≤ v3 ∧ v3 ≤ 2147483647) ∧ (v3 ≤ v2 → Q σ) ∧ (¬ v3 ≤ v2 → (0 ≤ v2 ∧ v2 < 1200) ∧ K5 (v2 + 1) (zsA σ 17 2 v2 v1))
def wpJ7_fill_53178_17_2_5 (v1 v2 v3 : Int) (σ : ZS) (Q : ZS → Prop) : Prop := lfp1 (fun K5 v2 σ => wpbJ7_fill_53178_17_2_5 K5 v1 v3 v2 σ Q) v2 σ
def wpJ7_fill_53178_17_2 (a1 : Int) (σ : ZS) (Q : ZS → Prop) : Prop := wpJ7_fill_53178_17_2_5 a1 0 1200 σ Q
set_option maxHeartbeats 4000000 in
set_option maxRecDepth 100000 in
theorem kJ7_fill_53178_17_2 (l : Launch) (D : va_G) (dA : Nat → ClassId) (ad : Int → Nat → Nat) (a1 : Int) (σ : ZS) (Q : ZS → Prop) (sz : Nat) (hw : wpJ7_fill_53178_17_2 a1 σ Q) : Met l yJ7_fill_53178 (gws yJ7_fill_53178 cJ7_fill_53178 4 none) (gR 1 0 0) (gPre D dA [.ref (ad 17 2), .int (Int32.ofInt a1)] (zC dA ad σ) sz) (va_Qv Q (gAt D dA (va_A (zC dA ad σ) sz) (zC dA ad)) (va_A (zC dA ad σ) sz)) 0 0 (va_A (zC dA ad σ) sz) := by
  refine Met.ofW (cc := cJ7_fill_53178) (maxL := 4) (ret := none) (by decide) rfl ?_
  intro p e s m args below meth c s₁ B hml hv
  obtain ⟨rfl, hsz, hP, hK, hD0⟩ := hv
  have hx := B.exec
  have hb := B.bytes
  have hr := B.returns
  have hts := atoms_spec (ws := gws yJ7_fill_53178 cJ7_fill_53178 4 none) B.pre
  have hg : ∀ w ∈ gw, w.before _ s = true := fun w h => hts w (List.mem_cons_of_mem _ h)
  have hown : s.vm.findClass RJ7 = some m.cls := findClass_of_methodNamed B.named
  have hlocks := B.notSynchronized
  subst hsz
  have hD := hD0.self (sz := s.heap.size)
  generalize hAe : va_A (zC dA ad σ) s.heap.size = A at hD ⊢
  have hA : ∀ q : Nat, s.heap.size ≤ q → A q := fun q h => by rw [← hAe]; exact Or.inr h
  have hS : va_S A s.heap s.heap [] := va_S.rf
  have hl := lv_entry ([.ref (ad 17 2), .int (Int32.ofInt a1)]) (n := 4) (Nat.le_of_ble_eq_true rfl)
  rw [lg_entry_eq]
  generalize (lg_sl ([.ref (ad 17 2), .int (Int32.ofInt a1)]) ++ List.replicate (4 - (lg_sl ([.ref (ad 17 2), .int (Int32.ofInt a1)])).length) Slot.unset).toArray = ls at hl ⊢
  have hl : lv_has ls 4 [(0, .ref (ad 17 2)), (1, .int (Int32.ofInt a1))] := hl
  have hret : ∀ (σ : ZS) (H : Heap) (locs : List Loc) (ls : Array Slot) (pc : Nat), Q σ → va_P D vwC (zC dA ad σ) H → va_D A (zC dA ad σ) → va_S A s.heap H locs → decode cJ7_fill_53178 pc = .ok (.return_, 1) → W p l e (gR 1 0 0) s m #[.ref (ad 17 2), .int (Int32.ofInt a1)] below meth c H locs 0 0 (MQ below (va_Qv Q (gAt D dA A (zC dA ad)) A) #[.ref (ad 17 2), .int (Int32.ofInt a1)] s 0 0 A) (F0 m pc ls []) := fun σ H locs ls pc hw hP hD hS hd => g_vret hx hb hr hlocks hK σ hP hD hS hw (Nat.le_of_ble_eq_true rfl) (Nat.le_of_ble_eq_true rfl) hd
  generalize MQ below (va_Qv Q (gAt D dA A (zC dA ad)) A) #[.ref (ad 17 2), .int (Int32.ofInt a1)] s 0 0 A = QQ at hret ⊢
  have b5 : ∀ (v1 v3 : Int) (K5 : Int → ZS → Prop), (∀ (v2 : Int) (σ : ZS), K5 v2 σ → ∀ (H : Heap) (locs : List Loc) (ls : Array Slot), va_P D vwC (zC dA ad σ) H → va_D A (zC dA ad σ) → va_S A s.heap H locs → lv_has ls 4 [(0, .ref (ad 17 2)), (1, .int (Int32.ofInt v1)), (2, .int (Int32.ofInt v2)), (3, .int (Int32.ofInt v3))] → W p l e (gR 1 0 0) s m #[.ref (ad 17 2), .int (Int32.ofInt a1)] below meth c H locs 0 0 QQ (F0 m 5 ls [])) → ∀ (v2 : Int) (σ : ZS), wpbJ7_fill_53178_17_2_5 K5 v1 v3 v2 σ Q → ∀ (H : Heap) (locs : List Loc) (ls : Array Slot), va_P D vwC (zC dA ad σ) H → va_D A (zC dA ad σ) → va_S A s.heap H locs → lv_has ls 4 [(0, .ref (ad 17 2)), (1, .int (Int32.ofInt v1)), (2, .int (Int32.ofInt v2)), (3, .int (Int32.ofInt v3))] → W p l e (gR 1 0 0) s m #[.ref (ad 17 2), .int (Int32.ofInt a1)] below meth c H locs 0 0 QQ (F0 m 5 ls []) := by
    intro v1 v3 K5 hK5
    intro v2 σ hw H locs ls hP hD hS hl
    unfold wpbJ7_fill_53178_17_2_5 at hw
    refine lv_iload_n hx hb dJ7_fill_53178_5 rfl (lv_at hl 2 rfl) ?_
    refine lv_iload_n hx hb dJ7_fill_53178_6 rfl (lv_at hl 3 rfl) ?_
    obtain ⟨o1, hw⟩ := hw
    obtain ⟨o2, hw⟩ := hw
    refine z_icmp_ge (tgt := 20) hx hb o1 o2 dJ7_fill_53178_7 (by decide) (fun k3 => ?_) (fun k3 => ?_)
    · replace hw := hw.1 k3
      exact hret σ _ _ _ _ hw hP hD hS dJ7_fill_53178_20
    · replace hw := hw.2 k3
      refine lv_aload_n hx hb dJ7_fill_53178_10 rfl (lv_at hl 0 rfl) ?_
      refine lv_iload_n hx hb dJ7_fill_53178_11 rfl (lv_at hl 2 rfl) ?_
      refine lv_iload_n hx hb dJ7_fill_53178_12 rfl (lv_at hl 1 rfl) ?_
      obtain ⟨o4, hw⟩ := hw
      refine zsC17_2 (v := v1) hx hb o4 hK hP hD hS dJ7_fill_53178_13 (fun H locs hP hD hS => ?_)
      refine lv_iinc (v := Int32.ofInt (v2 + 1)) (lv' := [(2, .int (Int32.ofInt (v2 + 1))), (0, .ref (ad 17 2)), (1, .int (Int32.ofInt v1)), (3, .int (Int32.ofInt v3))]) hx hb dJ7_fill_53178_14 hl (k := 2) rfl (Int32.ofInt_add _ _).symm (by decide) rfl (fun ls hl => ?_)
      refine lv_goto (tgt := 5) hx hb dJ7_fill_53178_17 (by decide) ?_
      exact hK5 (v2 + 1) (zsA σ 17 2 v2 v1) hw _ _ _ hP hD hS (lv_sub hl [1, 2, 0, 3] rfl)
  have j5 : ∀ (v1 v2 v3 : Int) (σ : ZS), ∀ (H : Heap) (locs : List Loc) (ls : Array Slot), va_P D vwC (zC dA ad σ) H → va_D A (zC dA ad σ) → va_S A s.heap H locs → lv_has ls 4 [(0, .ref (ad 17 2)), (1, .int (Int32.ofInt v1)), (2, .int (Int32.ofInt v2)), (3, .int (Int32.ofInt v3))] → wpJ7_fill_53178_17_2_5 v1 v2 v3 σ Q → W p l e (gR 1 0 0) s m #[.ref (ad 17 2), .int (Int32.ofInt a1)] below meth c H locs 0 0 QQ (F0 m 5 ls []) := by
    intro v1 v2 v3 σ H locs ls hP hD hS hl hw
    exact hw (fun v2 σ => ∀ (H : Heap) (locs : List Loc) (ls : Array Slot), va_P D vwC (zC dA ad σ) H → va_D A (zC dA ad σ) → va_S A s.heap H locs → lv_has ls 4 [(0, .ref (ad 17 2)), (1, .int (Int32.ofInt v1)), (2, .int (Int32.ofInt v2)), (3, .int (Int32.ofInt v3))] → W p l e (gR 1 0 0) s m #[.ref (ad 17 2), .int (Int32.ofInt a1)] below meth c H locs 0 0 QQ (F0 m 5 ls [])) (b5 v1 v3 (fun v2 σ => ∀ (H : Heap) (locs : List Loc) (ls : Array Slot), va_P D vwC (zC dA ad σ) H → va_D A (zC dA ad σ) → va_S A s.heap H locs → lv_has ls 4 [(0, .ref (ad 17 2)), (1, .int (Int32.ofInt v1)), (2, .int (Int32.ofInt v2)), (3, .int (Int32.ofInt v3))] → W p l e (gR 1 0 0) s m #[.ref (ad 17 2), .int (Int32.ofInt a1)] below meth c H locs 0 0 QQ (F0 m 5 ls [])) (fun v2 σ h => h)) _ _ _ hP hD hS hl
  unfold wpJ7_fill_53178_17_2 at hw
  refine lv_iconst (v := Int32.ofInt 0) hx hb dJ7_fill_53178_0 (by decide) ?_
  refine lv_istore_n (lv' := [(2, .int (Int32.ofInt 0)), (0, .ref (ad 17 2)), (1, .int (Int32.ofInt a1))]) hx hb dJ7_fill_53178_1 rfl hl (by decide) rfl (fun ls hl => ?_)
  refine lv_aload_n hx hb dJ7_fill_53178_2 rfl (lv_at hl 1 rfl) ?_
  refine va_alen (v := Int32.ofInt 1200) hx hb hK hP 37 0 rfl rfl rfl dJ7_fill_53178_3 ?_
  refine lv_istore_n (lv' := [(3, .int (Int32.ofInt 1200)), (2, .int (Int32.ofInt 0)), (0, .ref (ad 17 2)), (1, .int (Int32.ofInt a1))]) hx hb dJ7_fill_53178_4 rfl hl (by decide) rfl (fun ls hl => ?_)
  exact j5 a1 0 1200 σ _ _ _ hP hD hS (lv_sub hl [2, 3, 1, 0] rfl) hw
def wpbJ7_fill_53178_18_0_5 (K5 : Int → ZS → Prop) (v1 v3 v2 : Int) (σ : ZS) (Q : ZS → Prop) : Prop := (-2147483648 ≤ v2 ∧ v2 ≤ 2147483647) ∧ (-2147483648 ≤ v3 ∧ v3 ≤ 2147483647) ∧ (v3 ≤ v2 → Q σ) ∧ (¬ v3 ≤ v2 → (0 ≤ v2 ∧ v2 < 4096) ∧ K5 (v2 + 1) (zsA σ 18 0 v2 v1))
def wpJ7_fill_53178_18_0_5 (v1 v2 v3 : Int) (σ : ZS) (Q : ZS → Prop) : Prop := lfp1 (fun K5 v2 σ => wpbJ7_fill_53178_18_0_5 K5 v1 v3 v2 σ Q) v2 σ
def wpJ7_fill_53178_18_0 (a1 : Int) (σ : ZS) (Q : ZS → Prop) : Prop := wpJ7_fill_53178_18_0_5 a1 0 4096 σ Q
set_option maxHeartbeats 4000000 in
set_option maxRecDepth 100000 in
theorem kJ7_fill_53178_18_0 (l : Launch) (D : va_G) (dA : Nat → ClassId) (ad : Int → Nat → Nat) (a1 : Int) (σ : ZS) (Q : ZS → Prop) (sz : Nat) (hw : wpJ7_fill_53178_18_0 a1 σ Q) : Met l yJ7_fill_53178 (gws yJ7_fill_53178 cJ7_fill_53178 4 none) (gR 1 0 0) (gPre D dA [.ref (ad 18 0), .int (Int32.ofInt a1)] (zC dA ad σ) sz) (va_Qv Q (gAt D dA (va_A (zC dA ad σ) sz) (zC dA ad)) (va_A (zC dA ad σ) sz)) 0 0 (va_A (zC dA ad σ) sz) := by
  refine Met.ofW (cc := cJ7_fill_53178) (maxL := 4) (ret := none) (by decide) rfl ?_
  intro p e s m args below meth c s₁ B hml hv
  obtain ⟨rfl, hsz, hP, hK, hD0⟩ := hv
  have hx := B.exec
  have hb := B.bytes
  have hr := B.returns
  have hts := atoms_spec (ws := gws yJ7_fill_53178 cJ7_fill_53178 4 none) B.pre
  have hg : ∀ w ∈ gw, w.before _ s = true := fun w h => hts w (List.mem_cons_of_mem _ h)
  have hown : s.vm.findClass RJ7 = some m.cls := findClass_of_methodNamed B.named
  have hlocks := B.notSynchronized
  subst hsz
  have hD := hD0.self (sz := s.heap.size)
  generalize hAe : va_A (zC dA ad σ) s.heap.size = A at hD ⊢
  have hA : ∀ q : Nat, s.heap.size ≤ q → A q := fun q h => by rw [← hAe]; exact Or.inr h
  have hS : va_S A s.heap s.heap [] := va_S.rf
  have hl := lv_entry ([.ref (ad 18 0), .int (Int32.ofInt a1)]) (n := 4) (Nat.le_of_ble_eq_true rfl)
  rw [lg_entry_eq]
  generalize (lg_sl ([.ref (ad 18 0), .int (Int32.ofInt a1)]) ++ List.replicate (4 - (lg_sl ([.ref (ad 18 0), .int (Int32.ofInt a1)])).length) Slot.unset).toArray = ls at hl ⊢
  have hl : lv_has ls 4 [(0, .ref (ad 18 0)), (1, .int (Int32.ofInt a1))] := hl
  have hret : ∀ (σ : ZS) (H : Heap) (locs : List Loc) (ls : Array Slot) (pc : Nat), Q σ → va_P D vwC (zC dA ad σ) H → va_D A (zC dA ad σ) → va_S A s.heap H locs → decode cJ7_fill_53178 pc = .ok (.return_, 1) → W p l e (gR 1 0 0) s m #[.ref (ad 18 0), .int (Int32.ofInt a1)] below meth c H locs 0 0 (MQ below (va_Qv Q (gAt D dA A (zC dA ad)) A) #[.ref (ad 18 0), .int (Int32.ofInt a1)] s 0 0 A) (F0 m pc ls []) := fun σ H locs ls pc hw hP hD hS hd => g_vret hx hb hr hlocks hK σ hP hD hS hw (Nat.le_of_ble_eq_true rfl) (Nat.le_of_ble_eq_true rfl) hd
  generalize MQ below (va_Qv Q (gAt D dA A (zC dA ad)) A) #[.ref (ad 18 0), .int (Int32.ofInt a1)] s 0 0 A = QQ at hret ⊢
  have b5 : ∀ (v1 v3 : Int) (K5 : Int → ZS → Prop), (∀ (v2 : Int) (σ : ZS), K5 v2 σ → ∀ (H : Heap) (locs : List Loc) (ls : Array Slot), va_P D vwC (zC dA ad σ) H → va_D A (zC dA ad σ) → va_S A s.heap H locs → lv_has ls 4 [(0, .ref (ad 18 0)), (1, .int (Int32.ofInt v1)), (2, .int (Int32.ofInt v2)), (3, .int (Int32.ofInt v3))] → W p l e (gR 1 0 0) s m #[.ref (ad 18 0), .int (Int32.ofInt a1)] below meth c H locs 0 0 QQ (F0 m 5 ls [])) → ∀ (v2 : Int) (σ : ZS), wpbJ7_fill_53178_18_0_5 K5 v1 v3 v2 σ Q → ∀ (H : Heap) (locs : List Loc) (ls : Array Slot), va_P D vwC (zC dA ad σ) H → va_D A (zC dA ad σ) → va_S A s.heap H locs → lv_has ls 4 [(0, .ref (ad 18 0)), (1, .int (Int32.ofInt v1)), (2, .int (Int32.ofInt v2)), (3, .int (Int32.ofInt v3))] → W p l e (gR 1 0 0) s m #[.ref (ad 18 0), .int (Int32.ofInt a1)] below meth c H locs 0 0 QQ (F0 m 5 ls []) := by
    intro v1 v3 K5 hK5
    intro v2 σ hw H locs ls hP hD hS hl
    unfold wpbJ7_fill_53178_18_0_5 at hw
    refine lv_iload_n hx hb dJ7_fill_53178_5 rfl (lv_at hl 2 rfl) ?_
    refine lv_iload_n hx hb dJ7_fill_53178_6 rfl (lv_at hl 3 rfl) ?_
    obtain ⟨o1, hw⟩ := hw
    obtain ⟨o2, hw⟩ := hw
    refine z_icmp_ge (tgt := 20) hx hb o1 o2 dJ7_fill_53178_7 (by decide) (fun k3 => ?_) (fun k3 => ?_)
    · replace hw := hw.1 k3
      exact hret σ _ _ _ _ hw hP hD hS dJ7_fill_53178_20
    · replace hw := hw.2 k3
      refine lv_aload_n hx hb dJ7_fill_53178_10 rfl (lv_at hl 0 rfl) ?_
      refine lv_iload_n hx hb dJ7_fill_53178_11 rfl (lv_at hl 2 rfl) ?_
      refine lv_iload_n hx hb dJ7_fill_53178_12 rfl (lv_at hl 1 rfl) ?_
      obtain ⟨o4, hw⟩ := hw
      refine zsC18_0 (v := v1) hx hb o4 hK hP hD hS dJ7_fill_53178_13 (fun H locs hP hD hS => ?_)
      refine lv_iinc (v := Int32.ofInt (v2 + 1)) (lv' := [(2, .int (Int32.ofInt (v2 + 1))), (0, .ref (ad 18 0)), (1, .int (Int32.ofInt v1)), (3, .int (Int32.ofInt v3))]) hx hb dJ7_fill_53178_14 hl (k := 2) rfl (Int32.ofInt_add _ _).symm (by decide) rfl (fun ls hl => ?_)
      refine lv_goto (tgt := 5) hx hb dJ7_fill_53178_17 (by decide) ?_
      exact hK5 (v2 + 1) (zsA σ 18 0 v2 v1) hw _ _ _ hP hD hS (lv_sub hl [1, 2, 0, 3] rfl)
  have j5 : ∀ (v1 v2 v3 : Int) (σ : ZS), ∀ (H : Heap) (locs : List Loc) (ls : Array Slot), va_P D vwC (zC dA ad σ) H → va_D A (zC dA ad σ) → va_S A s.heap H locs → lv_has ls 4 [(0, .ref (ad 18 0)), (1, .int (Int32.ofInt v1)), (2, .int (Int32.ofInt v2)), (3, .int (Int32.ofInt v3))] → wpJ7_fill_53178_18_0_5 v1 v2 v3 σ Q → W p l e (gR 1 0 0) s m #[.ref (ad 18 0), .int (Int32.ofInt a1)] below meth c H locs 0 0 QQ (F0 m 5 ls []) := by
    intro v1 v2 v3 σ H locs ls hP hD hS hl hw
    exact hw (fun v2 σ => ∀ (H : Heap) (locs : List Loc) (ls : Array Slot), va_P D vwC (zC dA ad σ) H → va_D A (zC dA ad σ) → va_S A s.heap H locs → lv_has ls 4 [(0, .ref (ad 18 0)), (1, .int (Int32.ofInt v1)), (2, .int (Int32.ofInt v2)), (3, .int (Int32.ofInt v3))] → W p l e (gR 1 0 0) s m #[.ref (ad 18 0), .int (Int32.ofInt a1)] below meth c H locs 0 0 QQ (F0 m 5 ls [])) (b5 v1 v3 (fun v2 σ => ∀ (H : Heap) (locs : List Loc) (ls : Array Slot), va_P D vwC (zC dA ad σ) H → va_D A (zC dA ad σ) → va_S A s.heap H locs → lv_has ls 4 [(0, .ref (ad 18 0)), (1, .int (Int32.ofInt v1)), (2, .int (Int32.ofInt v2)), (3, .int (Int32.ofInt v3))] → W p l e (gR 1 0 0) s m #[.ref (ad 18 0), .int (Int32.ofInt a1)] below meth c H locs 0 0 QQ (F0 m 5 ls [])) (fun v2 σ h => h)) _ _ _ hP hD hS hl
  unfold wpJ7_fill_53178_18_0 at hw
  refine lv_iconst (v := Int32.ofInt 0) hx hb dJ7_fill_53178_0 (by decide) ?_
  refine lv_istore_n (lv' := [(2, .int (Int32.ofInt 0)), (0, .ref (ad 18 0)), (1, .int (Int32.ofInt a1))]) hx hb dJ7_fill_53178_1 rfl hl (by decide) rfl (fun ls hl => ?_)
  refine lv_aload_n hx hb dJ7_fill_53178_2 rfl (lv_at hl 1 rfl) ?_
  refine va_alen (v := Int32.ofInt 4096) hx hb hK hP 39 0 rfl rfl rfl dJ7_fill_53178_3 ?_
  refine lv_istore_n (lv' := [(3, .int (Int32.ofInt 4096)), (2, .int (Int32.ofInt 0)), (0, .ref (ad 18 0)), (1, .int (Int32.ofInt a1))]) hx hb dJ7_fill_53178_4 rfl hl (by decide) rfl (fun ls hl => ?_)
  exact j5 a1 0 4096 σ _ _ _ hP hD hS (lv_sub hl [2, 3, 1, 0] rfl) hw
def wpbJ7_fill_53178_18_1_5 (K5 : Int → ZS → Prop) (v1 v3 v2 : Int) (σ : ZS) (Q : ZS → Prop) : Prop := (-2147483648 ≤ v2 ∧ v2 ≤ 2147483647) ∧ (-2147483648 ≤ v3 ∧ v3 ≤ 2147483647) ∧ (v3 ≤ v2 → Q σ) ∧ (¬ v3 ≤ v2 → (0 ≤ v2 ∧ v2 < 8) ∧ K5 (v2 + 1) (zsA σ 18 1 v2 v1))
def wpJ7_fill_53178_18_1_5 (v1 v2 v3 : Int) (σ : ZS) (Q : ZS → Prop) : Prop := lfp1 (fun K5 v2 σ => wpbJ7_fill_53178_18_1_5 K5 v1 v3 v2 σ Q) v2 σ
def wpJ7_fill_53178_18_1 (a1 : Int) (σ : ZS) (Q : ZS → Prop) : Prop := wpJ7_fill_53178_18_1_5 a1 0 8 σ Q
set_option maxHeartbeats 4000000 in
set_option maxRecDepth 100000 in
theorem kJ7_fill_53178_18_1 (l : Launch) (D : va_G) (dA : Nat → ClassId) (ad : Int → Nat → Nat) (a1 : Int) (σ : ZS) (Q : ZS → Prop) (sz : Nat) (hw : wpJ7_fill_53178_18_1 a1 σ Q) : Met l yJ7_fill_53178 (gws yJ7_fill_53178 cJ7_fill_53178 4 none) (gR 1 0 0) (gPre D dA [.ref (ad 18 1), .int (Int32.ofInt a1)] (zC dA ad σ) sz) (va_Qv Q (gAt D dA (va_A (zC dA ad σ) sz) (zC dA ad)) (va_A (zC dA ad σ) sz)) 0 0 (va_A (zC dA ad σ) sz) := by
  refine Met.ofW (cc := cJ7_fill_53178) (maxL := 4) (ret := none) (by decide) rfl ?_
  intro p e s m args below meth c s₁ B hml hv
  obtain ⟨rfl, hsz, hP, hK, hD0⟩ := hv
  have hx := B.exec
  have hb := B.bytes
  have hr := B.returns
  have hts := atoms_spec (ws := gws yJ7_fill_53178 cJ7_fill_53178 4 none) B.pre
  have hg : ∀ w ∈ gw, w.before _ s = true := fun w h => hts w (List.mem_cons_of_mem _ h)
  have hown : s.vm.findClass RJ7 = some m.cls := findClass_of_methodNamed B.named
  have hlocks := B.notSynchronized
  subst hsz
  have hD := hD0.self (sz := s.heap.size)
  generalize hAe : va_A (zC dA ad σ) s.heap.size = A at hD ⊢
  have hA : ∀ q : Nat, s.heap.size ≤ q → A q := fun q h => by rw [← hAe]; exact Or.inr h
  have hS : va_S A s.heap s.heap [] := va_S.rf
  have hl := lv_entry ([.ref (ad 18 1), .int (Int32.ofInt a1)]) (n := 4) (Nat.le_of_ble_eq_true rfl)
  rw [lg_entry_eq]
  generalize (lg_sl ([.ref (ad 18 1), .int (Int32.ofInt a1)]) ++ List.replicate (4 - (lg_sl ([.ref (ad 18 1), .int (Int32.ofInt a1)])).length) Slot.unset).toArray = ls at hl ⊢
  have hl : lv_has ls 4 [(0, .ref (ad 18 1)), (1, .int (Int32.ofInt a1))] := hl
  have hret : ∀ (σ : ZS) (H : Heap) (locs : List Loc) (ls : Array Slot) (pc : Nat), Q σ → va_P D vwC (zC dA ad σ) H → va_D A (zC dA ad σ) → va_S A s.heap H locs → decode cJ7_fill_53178 pc = .ok (.return_, 1) → W p l e (gR 1 0 0) s m #[.ref (ad 18 1), .int (Int32.ofInt a1)] below meth c H locs 0 0 (MQ below (va_Qv Q (gAt D dA A (zC dA ad)) A) #[.ref (ad 18 1), .int (Int32.ofInt a1)] s 0 0 A) (F0 m pc ls []) := fun σ H locs ls pc hw hP hD hS hd => g_vret hx hb hr hlocks hK σ hP hD hS hw (Nat.le_of_ble_eq_true rfl) (Nat.le_of_ble_eq_true rfl) hd
  generalize MQ below (va_Qv Q (gAt D dA A (zC dA ad)) A) #[.ref (ad 18 1), .int (Int32.ofInt a1)] s 0 0 A = QQ at hret ⊢
  have b5 : ∀ (v1 v3 : Int) (K5 : Int → ZS → Prop), (∀ (v2 : Int) (σ : ZS), K5 v2 σ → ∀ (H : Heap) (locs : List Loc) (ls : Array Slot), va_P D vwC (zC dA ad σ) H → va_D A (zC dA ad σ) → va_S A s.heap H locs → lv_has ls 4 [(0, .ref (ad 18 1)), (1, .int (Int32.ofInt v1)), (2, .int (Int32.ofInt v2)), (3, .int (Int32.ofInt v3))] → W p l e (gR 1 0 0) s m #[.ref (ad 18 1), .int (Int32.ofInt a1)] below meth c H locs 0 0 QQ (F0 m 5 ls [])) → ∀ (v2 : Int) (σ : ZS), wpbJ7_fill_53178_18_1_5 K5 v1 v3 v2 σ Q → ∀ (H : Heap) (locs : List Loc) (ls : Array Slot), va_P D vwC (zC dA ad σ) H → va_D A (zC dA ad σ) → va_S A s.heap H locs → lv_has ls 4 [(0, .ref (ad 18 1)), (1, .int (Int32.ofInt v1)), (2, .int (Int32.ofInt v2)), (3, .int (Int32.ofInt v3))] → W p l e (gR 1 0 0) s m #[.ref (ad 18 1), .int (Int32.ofInt a1)] below meth c H locs 0 0 QQ (F0 m 5 ls []) := by
    intro v1 v3 K5 hK5
    intro v2 σ hw H locs ls hP hD hS hl
    unfold wpbJ7_fill_53178_18_1_5 at hw
    refine lv_iload_n hx hb dJ7_fill_53178_5 rfl (lv_at hl 2 rfl) ?_
    refine lv_iload_n hx hb dJ7_fill_53178_6 rfl (lv_at hl 3 rfl) ?_
    obtain ⟨o1, hw⟩ := hw
    obtain ⟨o2, hw⟩ := hw
    refine z_icmp_ge (tgt := 20) hx hb o1 o2 dJ7_fill_53178_7 (by decide) (fun k3 => ?_) (fun k3 => ?_)
    · replace hw := hw.1 k3
      exact hret σ _ _ _ _ hw hP hD hS dJ7_fill_53178_20
    · replace hw := hw.2 k3
      refine lv_aload_n hx hb dJ7_fill_53178_10 rfl (lv_at hl 0 rfl) ?_
      refine lv_iload_n hx hb dJ7_fill_53178_11 rfl (lv_at hl 2 rfl) ?_
      refine lv_iload_n hx hb dJ7_fill_53178_12 rfl (lv_at hl 1 rfl) ?_
      obtain ⟨o4, hw⟩ := hw
      refine zsC18_1 (v := v1) hx hb o4 hK hP hD hS dJ7_fill_53178_13 (fun H locs hP hD hS => ?_)
      refine lv_iinc (v := Int32.ofInt (v2 + 1)) (lv' := [(2, .int (Int32.ofInt (v2 + 1))), (0, .ref (ad 18 1)), (1, .int (Int32.ofInt v1)), (3, .int (Int32.ofInt v3))]) hx hb dJ7_fill_53178_14 hl (k := 2) rfl (Int32.ofInt_add _ _).symm (by decide) rfl (fun ls hl => ?_)
      refine lv_goto (tgt := 5) hx hb dJ7_fill_53178_17 (by decide) ?_
      exact hK5 (v2 + 1) (zsA σ 18 1 v2 v1) hw _ _ _ hP hD hS (lv_sub hl [1, 2, 0, 3] rfl)
  have j5 : ∀ (v1 v2 v3 : Int) (σ : ZS), ∀ (H : Heap) (locs : List Loc) (ls : Array Slot), va_P D vwC (zC dA ad σ) H → va_D A (zC dA ad σ) → va_S A s.heap H locs → lv_has ls 4 [(0, .ref (ad 18 1)), (1, .int (Int32.ofInt v1)), (2, .int (Int32.ofInt v2)), (3, .int (Int32.ofInt v3))] → wpJ7_fill_53178_18_1_5 v1 v2 v3 σ Q → W p l e (gR 1 0 0) s m #[.ref (ad 18 1), .int (Int32.ofInt a1)] below meth c H locs 0 0 QQ (F0 m 5 ls []) := by
    intro v1 v2 v3 σ H locs ls hP hD hS hl hw
    exact hw (fun v2 σ => ∀ (H : Heap) (locs : List Loc) (ls : Array Slot), va_P D vwC (zC dA ad σ) H → va_D A (zC dA ad σ) → va_S A s.heap H locs → lv_has ls 4 [(0, .ref (ad 18 1)), (1, .int (Int32.ofInt v1)), (2, .int (Int32.ofInt v2)), (3, .int (Int32.ofInt v3))] → W p l e (gR 1 0 0) s m #[.ref (ad 18 1), .int (Int32.ofInt a1)] below meth c H locs 0 0 QQ (F0 m 5 ls [])) (b5 v1 v3 (fun v2 σ => ∀ (H : Heap) (locs : List Loc) (ls : Array Slot), va_P D vwC (zC dA ad σ) H → va_D A (zC dA ad σ) → va_S A s.heap H locs → lv_has ls 4 [(0, .ref (ad 18 1)), (1, .int (Int32.ofInt v1)), (2, .int (Int32.ofInt v2)), (3, .int (Int32.ofInt v3))] → W p l e (gR 1 0 0) s m #[.ref (ad 18 1), .int (Int32.ofInt a1)] below meth c H locs 0 0 QQ (F0 m 5 ls [])) (fun v2 σ h => h)) _ _ _ hP hD hS hl
  unfold wpJ7_fill_53178_18_1 at hw
  refine lv_iconst (v := Int32.ofInt 0) hx hb dJ7_fill_53178_0 (by decide) ?_
  refine lv_istore_n (lv' := [(2, .int (Int32.ofInt 0)), (0, .ref (ad 18 1)), (1, .int (Int32.ofInt a1))]) hx hb dJ7_fill_53178_1 rfl hl (by decide) rfl (fun ls hl => ?_)
  refine lv_aload_n hx hb dJ7_fill_53178_2 rfl (lv_at hl 1 rfl) ?_
  refine va_alen (v := Int32.ofInt 8) hx hb hK hP 40 0 rfl rfl rfl dJ7_fill_53178_3 ?_
  refine lv_istore_n (lv' := [(3, .int (Int32.ofInt 8)), (2, .int (Int32.ofInt 0)), (0, .ref (ad 18 1)), (1, .int (Int32.ofInt a1))]) hx hb dJ7_fill_53178_4 rfl hl (by decide) rfl (fun ls hl => ?_)
  exact j5 a1 0 8 σ _ _ _ hP hD hS (lv_sub hl [2, 3, 1, 0] rfl) hw
def wpbJ7_fill_53178_18_2_5 (K5 : Int → ZS → Prop) (v1 v3 v2 : Int) (σ : ZS) (Q : ZS → Prop) : Prop := (-2147483648 ≤ v2 ∧ v2 ≤ 2147483647) ∧ (-2147483648 ≤ v3 ∧ v3 ≤ 2147483647) ∧ (v3 ≤ v2 → Q σ) ∧ (¬ v3 ≤ v2 → (0 ≤ v2 ∧ v2 < 4) ∧ K5 (v2 + 1) (zsA σ 18 2 v2 v1))
def wpJ7_fill_53178_18_2_5 (v1 v2 v3 : Int) (σ : ZS) (Q : ZS → Prop) : Prop := lfp1 (fun K5 v2 σ => wpbJ7_fill_53178_18_2_5 K5 v1 v3 v2 σ Q) v2 σ
def wpJ7_fill_53178_18_2 (a1 : Int) (σ : ZS) (Q : ZS → Prop) : Prop := wpJ7_fill_53178_18_2_5 a1 0 4 σ Q
set_option maxHeartbeats 4000000 in
set_option maxRecDepth 100000 in
theorem kJ7_fill_53178_18_2 (l : Launch) (D : va_G) (dA : Nat → ClassId) (ad : Int → Nat → Nat) (a1 : Int) (σ : ZS) (Q : ZS → Prop) (sz : Nat) (hw : wpJ7_fill_53178_18_2 a1 σ Q) : Met l yJ7_fill_53178 (gws yJ7_fill_53178 cJ7_fill_53178 4 none) (gR 1 0 0) (gPre D dA [.ref (ad 18 2), .int (Int32.ofInt a1)] (zC dA ad σ) sz) (va_Qv Q (gAt D dA (va_A (zC dA ad σ) sz) (zC dA ad)) (va_A (zC dA ad σ) sz)) 0 0 (va_A (zC dA ad σ) sz) := by
  refine Met.ofW (cc := cJ7_fill_53178) (maxL := 4) (ret := none) (by decide) rfl ?_
  intro p e s m args below meth c s₁ B hml hv
  obtain ⟨rfl, hsz, hP, hK, hD0⟩ := hv
  have hx := B.exec
  have hb := B.bytes
  have hr := B.returns
  have hts := atoms_spec (ws := gws yJ7_fill_53178 cJ7_fill_53178 4 none) B.pre
  have hg : ∀ w ∈ gw, w.before _ s = true := fun w h => hts w (List.mem_cons_of_mem _ h)
  have hown : s.vm.findClass RJ7 = some m.cls := findClass_of_methodNamed B.named
  have hlocks := B.notSynchronized
  subst hsz
  have hD := hD0.self (sz := s.heap.size)
  generalize hAe : va_A (zC dA ad σ) s.heap.size = A at hD ⊢
  have hA : ∀ q : Nat, s.heap.size ≤ q → A q := fun q h => by rw [← hAe]; exact Or.inr h
  have hS : va_S A s.heap s.heap [] := va_S.rf
  have hl := lv_entry ([.ref (ad 18 2), .int (Int32.ofInt a1)]) (n := 4) (Nat.le_of_ble_eq_true rfl)
  rw [lg_entry_eq]
  generalize (lg_sl ([.ref (ad 18 2), .int (Int32.ofInt a1)]) ++ List.replicate (4 - (lg_sl ([.ref (ad 18 2), .int (Int32.ofInt a1)])).length) Slot.unset).toArray = ls at hl ⊢
  have hl : lv_has ls 4 [(0, .ref (ad 18 2)), (1, .int (Int32.ofInt a1))] := hl
  have hret : ∀ (σ : ZS) (H : Heap) (locs : List Loc) (ls : Array Slot) (pc : Nat), Q σ → va_P D vwC (zC dA ad σ) H → va_D A (zC dA ad σ) → va_S A s.heap H locs → decode cJ7_fill_53178 pc = .ok (.return_, 1) → W p l e (gR 1 0 0) s m #[.ref (ad 18 2), .int (Int32.ofInt a1)] below meth c H locs 0 0 (MQ below (va_Qv Q (gAt D dA A (zC dA ad)) A) #[.ref (ad 18 2), .int (Int32.ofInt a1)] s 0 0 A) (F0 m pc ls []) := fun σ H locs ls pc hw hP hD hS hd => g_vret hx hb hr hlocks hK σ hP hD hS hw (Nat.le_of_ble_eq_true rfl) (Nat.le_of_ble_eq_true rfl) hd
  generalize MQ below (va_Qv Q (gAt D dA A (zC dA ad)) A) #[.ref (ad 18 2), .int (Int32.ofInt a1)] s 0 0 A = QQ at hret ⊢
  have b5 : ∀ (v1 v3 : Int) (K5 : Int → ZS → Prop), (∀ (v2 : Int) (σ : ZS), K5 v2 σ → ∀ (H : Heap) (locs : List Loc) (ls : Array Slot), va_P D vwC (zC dA ad σ) H → va_D A (zC dA ad σ) → va_S A s.heap H locs → lv_has ls 4 [(0, .ref (ad 18 2)), (1, .int (Int32.ofInt v1)), (2, .int (Int32.ofInt v2)), (3, .int (Int32.ofInt v3))] → W p l e (gR 1 0 0) s m #[.ref (ad 18 2), .int (Int32.ofInt a1)] below meth c H locs 0 0 QQ (F0 m 5 ls [])) → ∀ (v2 : Int) (σ : ZS), wpbJ7_fill_53178_18_2_5 K5 v1 v3 v2 σ Q → ∀ (H : Heap) (locs : List Loc) (ls : Array Slot), va_P D vwC (zC dA ad σ) H → va_D A (zC dA ad σ) → va_S A s.heap H locs → lv_has ls 4 [(0, .ref (ad 18 2)), (1, .int (Int32.ofInt v1)), (2, .int (Int32.ofInt v2)), (3, .int (Int32.ofInt v3))] → W p l e (gR 1 0 0) s m #[.ref (ad 18 2), .int (Int32.ofInt a1)] below meth c H locs 0 0 QQ (F0 m 5 ls []) := by
    intro v1 v3 K5 hK5
    intro v2 σ hw H locs ls hP hD hS hl
    unfold wpbJ7_fill_53178_18_2_5 at hw
    refine lv_iload_n hx hb dJ7_fill_53178_5 rfl (lv_at hl 2 rfl) ?_
    refine lv_iload_n hx hb dJ7_fill_53178_6 rfl (lv_at hl 3 rfl) ?_
    obtain ⟨o1, hw⟩ := hw
    obtain ⟨o2, hw⟩ := hw
    refine z_icmp_ge (tgt := 20) hx hb o1 o2 dJ7_fill_53178_7 (by decide) (fun k3 => ?_) (fun k3 => ?_)
    · replace hw := hw.1 k3
      exact hret σ _ _ _ _ hw hP hD hS dJ7_fill_53178_20
    · replace hw := hw.2 k3
      refine lv_aload_n hx hb dJ7_fill_53178_10 rfl (lv_at hl 0 rfl) ?_
      refine lv_iload_n hx hb dJ7_fill_53178_11 rfl (lv_at hl 2 rfl) ?_
      refine lv_iload_n hx hb dJ7_fill_53178_12 rfl (lv_at hl 1 rfl) ?_
      obtain ⟨o4, hw⟩ := hw
      refine zsC18_2 (v := v1) hx hb o4 hK hP hD hS dJ7_fill_53178_13 (fun H locs hP hD hS => ?_)
      refine lv_iinc (v := Int32.ofInt (v2 + 1)) (lv' := [(2, .int (Int32.ofInt (v2 + 1))), (0, .ref (ad 18 2)), (1, .int (Int32.ofInt v1)), (3, .int (Int32.ofInt v3))]) hx hb dJ7_fill_53178_14 hl (k := 2) rfl (Int32.ofInt_add _ _).symm (by decide) rfl (fun ls hl => ?_)
      refine lv_goto (tgt := 5) hx hb dJ7_fill_53178_17 (by decide) ?_
      exact hK5 (v2 + 1) (zsA σ 18 2 v2 v1) hw _ _ _ hP hD hS (lv_sub hl [1, 2, 0, 3] rfl)
  have j5 : ∀ (v1 v2 v3 : Int) (σ : ZS), ∀ (H : Heap) (locs : List Loc) (ls : Array Slot), va_P D vwC (zC dA ad σ) H → va_D A (zC dA ad σ) → va_S A s.heap H locs → lv_has ls 4 [(0, .ref (ad 18 2)), (1, .int (Int32.ofInt v1)), (2, .int (Int32.ofInt v2)), (3, .int (Int32.ofInt v3))] → wpJ7_fill_53178_18_2_5 v1 v2 v3 σ Q → W p l e (gR 1 0 0) s m #[.ref (ad 18 2), .int (Int32.ofInt a1)] below meth c H locs 0 0 QQ (F0 m 5 ls []) := by
    intro v1 v2 v3 σ H locs ls hP hD hS hl hw
    exact hw (fun v2 σ => ∀ (H : Heap) (locs : List Loc) (ls : Array Slot), va_P D vwC (zC dA ad σ) H → va_D A (zC dA ad σ) → va_S A s.heap H locs → lv_has ls 4 [(0, .ref (ad 18 2)), (1, .int (Int32.ofInt v1)), (2, .int (Int32.ofInt v2)), (3, .int (Int32.ofInt v3))] → W p l e (gR 1 0 0) s m #[.ref (ad 18 2), .int (Int32.ofInt a1)] below meth c H locs 0 0 QQ (F0 m 5 ls [])) (b5 v1 v3 (fun v2 σ => ∀ (H : Heap) (locs : List Loc) (ls : Array Slot), va_P D vwC (zC dA ad σ) H → va_D A (zC dA ad σ) → va_S A s.heap H locs → lv_has ls 4 [(0, .ref (ad 18 2)), (1, .int (Int32.ofInt v1)), (2, .int (Int32.ofInt v2)), (3, .int (Int32.ofInt v3))] → W p l e (gR 1 0 0) s m #[.ref (ad 18 2), .int (Int32.ofInt a1)] below meth c H locs 0 0 QQ (F0 m 5 ls [])) (fun v2 σ h => h)) _ _ _ hP hD hS hl
  unfold wpJ7_fill_53178_18_2 at hw
  refine lv_iconst (v := Int32.ofInt 0) hx hb dJ7_fill_53178_0 (by decide) ?_
  refine lv_istore_n (lv' := [(2, .int (Int32.ofInt 0)), (0, .ref (ad 18 2)), (1, .int (Int32.ofInt a1))]) hx hb dJ7_fill_53178_1 rfl hl (by decide) rfl (fun ls hl => ?_)
  refine lv_aload_n hx hb dJ7_fill_53178_2 rfl (lv_at hl 1 rfl) ?_
  refine va_alen (v := Int32.ofInt 4) hx hb hK hP 41 0 rfl rfl rfl dJ7_fill_53178_3 ?_
  refine lv_istore_n (lv' := [(3, .int (Int32.ofInt 4)), (2, .int (Int32.ofInt 0)), (0, .ref (ad 18 2)), (1, .int (Int32.ofInt a1))]) hx hb dJ7_fill_53178_4 rfl hl (by decide) rfl (fun ls hl => ?_)
  exact j5 a1 0 4 σ _ _ _ hP hD hS (lv_sub hl [2, 3, 1, 0] rfl) hw
def wpbJ7_fill_53178_M_6_5 (K5 : Int → ZS → Prop) (v0 v1 v3 v2 : Int) (σ : ZS) (Q : ZS → Prop) : Prop := (-2147483648 ≤ v2 ∧ v2 ≤ 2147483647) ∧ (-2147483648 ≤ v3 ∧ v3 ≤ 2147483647) ∧ (v3 ≤ v2 → Q σ) ∧ (¬ v3 ≤ v2 → (0 ≤ v0 ∧ v0 ≤ 2) ∧ (0 ≤ v2 ∧ v2 < 400) ∧ K5 (v2 + 1) (zsA σ v0 6 v2 v1))
def wpJ7_fill_53178_M_6_5 (v0 v1 v2 v3 : Int) (σ : ZS) (Q : ZS → Prop) : Prop := lfp1 (fun K5 v2 σ => wpbJ7_fill_53178_M_6_5 K5 v0 v1 v3 v2 σ Q) v2 σ
def wpJ7_fill_53178_M_6 (g0 a1 : Int) (σ : ZS) (Q : ZS → Prop) : Prop := (0 ≤ g0 ∧ g0 ≤ 2) ∧ wpJ7_fill_53178_M_6_5 g0 a1 0 400 σ Q
set_option maxHeartbeats 4000000 in
set_option maxRecDepth 100000 in
theorem kJ7_fill_53178_M_6 (l : Launch) (D : va_G) (dA : Nat → ClassId) (ad : Int → Nat → Nat) (g0 a1 : Int) (σ : ZS) (Q : ZS → Prop) (sz : Nat) (hw : wpJ7_fill_53178_M_6 g0 a1 σ Q) : Met l yJ7_fill_53178 (gws yJ7_fill_53178 cJ7_fill_53178 4 none) (gR 1 0 0) (gPre D dA [.ref (ad g0 6), .int (Int32.ofInt a1)] (zC dA ad σ) sz) (va_Qv Q (gAt D dA (va_A (zC dA ad σ) sz) (zC dA ad)) (va_A (zC dA ad σ) sz)) 0 0 (va_A (zC dA ad σ) sz) := by
  refine Met.ofW (cc := cJ7_fill_53178) (maxL := 4) (ret := none) (by decide) rfl ?_
  intro p e s m args below meth c s₁ B hml hv
  obtain ⟨rfl, hsz, hP, hK, hD0⟩ := hv
  have hx := B.exec
  have hb := B.bytes
  have hr := B.returns
  have hts := atoms_spec (ws := gws yJ7_fill_53178 cJ7_fill_53178 4 none) B.pre
  have hg : ∀ w ∈ gw, w.before _ s = true := fun w h => hts w (List.mem_cons_of_mem _ h)
  have hown : s.vm.findClass RJ7 = some m.cls := findClass_of_methodNamed B.named
  have hlocks := B.notSynchronized
  subst hsz
  have hD := hD0.self (sz := s.heap.size)
  generalize hAe : va_A (zC dA ad σ) s.heap.size = A at hD ⊢
  have hA : ∀ q : Nat, s.heap.size ≤ q → A q := fun q h => by rw [← hAe]; exact Or.inr h
  have hS : va_S A s.heap s.heap [] := va_S.rf
  have hl := lv_entry ([.ref (ad g0 6), .int (Int32.ofInt a1)]) (n := 4) (Nat.le_of_ble_eq_true rfl)
  rw [lg_entry_eq]
  generalize (lg_sl ([.ref (ad g0 6), .int (Int32.ofInt a1)]) ++ List.replicate (4 - (lg_sl ([.ref (ad g0 6), .int (Int32.ofInt a1)])).length) Slot.unset).toArray = ls at hl ⊢
  have hl : lv_has ls 4 [(0, .ref (ad g0 6)), (1, .int (Int32.ofInt a1))] := hl
  have hret : ∀ (σ : ZS) (H : Heap) (locs : List Loc) (ls : Array Slot) (pc : Nat), Q σ → va_P D vwC (zC dA ad σ) H → va_D A (zC dA ad σ) → va_S A s.heap H locs → decode cJ7_fill_53178 pc = .ok (.return_, 1) → W p l e (gR 1 0 0) s m #[.ref (ad g0 6), .int (Int32.ofInt a1)] below meth c H locs 0 0 (MQ below (va_Qv Q (gAt D dA A (zC dA ad)) A) #[.ref (ad g0 6), .int (Int32.ofInt a1)] s 0 0 A) (F0 m pc ls []) := fun σ H locs ls pc hw hP hD hS hd => g_vret hx hb hr hlocks hK σ hP hD hS hw (Nat.le_of_ble_eq_true rfl) (Nat.le_of_ble_eq_true rfl) hd
  generalize MQ below (va_Qv Q (gAt D dA A (zC dA ad)) A) #[.ref (ad g0 6), .int (Int32.ofInt a1)] s 0 0 A = QQ at hret ⊢
  have b5 : ∀ (v0 v1 v3 : Int) (K5 : Int → ZS → Prop), (∀ (v2 : Int) (σ : ZS), K5 v2 σ → ∀ (H : Heap) (locs : List Loc) (ls : Array Slot), va_P D vwC (zC dA ad σ) H → va_D A (zC dA ad σ) → va_S A s.heap H locs → lv_has ls 4 [(0, .ref (ad v0 6)), (1, .int (Int32.ofInt v1)), (2, .int (Int32.ofInt v2)), (3, .int (Int32.ofInt v3))] → W p l e (gR 1 0 0) s m #[.ref (ad g0 6), .int (Int32.ofInt a1)] below meth c H locs 0 0 QQ (F0 m 5 ls [])) → ∀ (v2 : Int) (σ : ZS), wpbJ7_fill_53178_M_6_5 K5 v0 v1 v3 v2 σ Q → ∀ (H : Heap) (locs : List Loc) (ls : Array Slot), va_P D vwC (zC dA ad σ) H → va_D A (zC dA ad σ) → va_S A s.heap H locs → lv_has ls 4 [(0, .ref (ad v0 6)), (1, .int (Int32.ofInt v1)), (2, .int (Int32.ofInt v2)), (3, .int (Int32.ofInt v3))] → W p l e (gR 1 0 0) s m #[.ref (ad g0 6), .int (Int32.ofInt a1)] below meth c H locs 0 0 QQ (F0 m 5 ls []) := by
    intro v0 v1 v3 K5 hK5
    intro v2 σ hw H locs ls hP hD hS hl
    unfold wpbJ7_fill_53178_M_6_5 at hw
    refine lv_iload_n hx hb dJ7_fill_53178_5 rfl (lv_at hl 2 rfl) ?_
    refine lv_iload_n hx hb dJ7_fill_53178_6 rfl (lv_at hl 3 rfl) ?_
    obtain ⟨o1, hw⟩ := hw
    obtain ⟨o2, hw⟩ := hw
    refine z_icmp_ge (tgt := 20) hx hb o1 o2 dJ7_fill_53178_7 (by decide) (fun k3 => ?_) (fun k3 => ?_)
    · replace hw := hw.1 k3
      exact hret σ _ _ _ _ hw hP hD hS dJ7_fill_53178_20
    · replace hw := hw.2 k3
      refine lv_aload_n hx hb dJ7_fill_53178_10 rfl (lv_at hl 0 rfl) ?_
      refine lv_iload_n hx hb dJ7_fill_53178_11 rfl (lv_at hl 2 rfl) ?_
      refine lv_iload_n hx hb dJ7_fill_53178_12 rfl (lv_at hl 1 rfl) ?_
      obtain ⟨o4, hw⟩ := hw
      obtain ⟨o5, hw⟩ := hw
      refine zsCM_6 (v := v1) hx hb o4 o5 hK hP hD hS dJ7_fill_53178_13 (fun H locs hP hD hS => ?_)
      refine lv_iinc (v := Int32.ofInt (v2 + 1)) (lv' := [(2, .int (Int32.ofInt (v2 + 1))), (0, .ref (ad v0 6)), (1, .int (Int32.ofInt v1)), (3, .int (Int32.ofInt v3))]) hx hb dJ7_fill_53178_14 hl (k := 2) rfl (Int32.ofInt_add _ _).symm (by decide) rfl (fun ls hl => ?_)
      refine lv_goto (tgt := 5) hx hb dJ7_fill_53178_17 (by decide) ?_
      exact hK5 (v2 + 1) (zsA σ v0 6 v2 v1) hw _ _ _ hP hD hS (lv_sub hl [1, 2, 0, 3] rfl)
  have j5 : ∀ (v0 v1 v2 v3 : Int) (σ : ZS), ∀ (H : Heap) (locs : List Loc) (ls : Array Slot), va_P D vwC (zC dA ad σ) H → va_D A (zC dA ad σ) → va_S A s.heap H locs → lv_has ls 4 [(0, .ref (ad v0 6)), (1, .int (Int32.ofInt v1)), (2, .int (Int32.ofInt v2)), (3, .int (Int32.ofInt v3))] → wpJ7_fill_53178_M_6_5 v0 v1 v2 v3 σ Q → W p l e (gR 1 0 0) s m #[.ref (ad g0 6), .int (Int32.ofInt a1)] below meth c H locs 0 0 QQ (F0 m 5 ls []) := by
    intro v0 v1 v2 v3 σ H locs ls hP hD hS hl hw
    exact hw (fun v2 σ => ∀ (H : Heap) (locs : List Loc) (ls : Array Slot), va_P D vwC (zC dA ad σ) H → va_D A (zC dA ad σ) → va_S A s.heap H locs → lv_has ls 4 [(0, .ref (ad v0 6)), (1, .int (Int32.ofInt v1)), (2, .int (Int32.ofInt v2)), (3, .int (Int32.ofInt v3))] → W p l e (gR 1 0 0) s m #[.ref (ad g0 6), .int (Int32.ofInt a1)] below meth c H locs 0 0 QQ (F0 m 5 ls [])) (b5 v0 v1 v3 (fun v2 σ => ∀ (H : Heap) (locs : List Loc) (ls : Array Slot), va_P D vwC (zC dA ad σ) H → va_D A (zC dA ad σ) → va_S A s.heap H locs → lv_has ls 4 [(0, .ref (ad v0 6)), (1, .int (Int32.ofInt v1)), (2, .int (Int32.ofInt v2)), (3, .int (Int32.ofInt v3))] → W p l e (gR 1 0 0) s m #[.ref (ad g0 6), .int (Int32.ofInt a1)] below meth c H locs 0 0 QQ (F0 m 5 ls [])) (fun v2 σ h => h)) _ _ _ hP hD hS hl
  unfold wpJ7_fill_53178_M_6 at hw
  refine lv_iconst (v := Int32.ofInt 0) hx hb dJ7_fill_53178_0 (by decide) ?_
  refine lv_istore_n (lv' := [(2, .int (Int32.ofInt 0)), (0, .ref (ad g0 6)), (1, .int (Int32.ofInt a1))]) hx hb dJ7_fill_53178_1 rfl hl (by decide) rfl (fun ls hl => ?_)
  refine lv_aload_n hx hb dJ7_fill_53178_2 rfl (lv_at hl 1 rfl) ?_
  obtain ⟨o6, hw⟩ := hw
  refine zaM_6 hx hb o6 hK hP dJ7_fill_53178_3 ?_
  refine lv_istore_n (lv' := [(3, .int (Int32.ofInt 400)), (2, .int (Int32.ofInt 0)), (0, .ref (ad g0 6)), (1, .int (Int32.ofInt a1))]) hx hb dJ7_fill_53178_4 rfl hl (by decide) rfl (fun ls hl => ?_)
  exact j5 g0 a1 0 400 σ _ _ _ hP hD hS (lv_sub hl [2, 3, 1, 0] rfl) hw
