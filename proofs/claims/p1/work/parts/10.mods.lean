theorem dX10_isModule_0 : decode cX10_isModule 0 = .ok (.iload_n 0, 1) := by decide +kernel
theorem dX10_isModule_1 : decode cX10_isModule 1 = .ok (.ifCond .lt 12, 3) := by decide +kernel
theorem dX10_isModule_13 : decode cX10_isModule 13 = .ok (.iconst 0, 1) := by decide +kernel
theorem dX10_isModule_14 : decode cX10_isModule 14 = .ok (.ireturn, 1) := by decide +kernel
theorem dX10_isModule_4 : decode cX10_isModule 4 = .ok (.iload_n 0, 1) := by decide +kernel
theorem dX10_isModule_5 : decode cX10_isModule 5 = .ok (.iconst 3, 1) := by decide +kernel
theorem dX10_isModule_6 : decode cX10_isModule 6 = .ok (.if_icmp .ge 7, 3) := by decide +kernel
theorem dX10_isModule_9 : decode cX10_isModule 9 = .ok (.iconst 1, 1) := by decide +kernel
theorem dX10_isModule_10 : decode cX10_isModule 10 = .ok (.goto 4, 3) := by decide +kernel
theorem dX10_tell_0 : decode cX10_tell 0 = .ok (.aload_n 0, 1) := by decide +kernel
theorem dX10_tell_1 : decode cX10_tell 1 = .ok (.iload_n 1, 1) := by decide +kernel
theorem dX10_tell_2 : decode cX10_tell 2 = .ok (.putfield 17, 3) := by decide +kernel
theorem dX10_tell_5 : decode cX10_tell 5 = .ok (.aload_n 0, 1) := by decide +kernel
theorem dX10_tell_6 : decode cX10_tell 6 = .ok (.iload_n 2, 1) := by decide +kernel
theorem dX10_tell_7 : decode cX10_tell 7 = .ok (.putfield 20, 3) := by decide +kernel
theorem dX10_tell_10 : decode cX10_tell 10 = .ok (.return_, 1) := by decide +kernel
set_option maxHeartbeats 4000000 in
set_option maxRecDepth 100000 in
theorem c_X10_isModule (l : Launch) (D : va_G) (dA : Nat → ClassId) (x : Int32) (sz : Nat) : Met l yX10_isModule (gws yX10_isModule cX10_isModule 1 (some .boolean)) (gR 2 0 0) (gPre D dA [.int x] [] sz) (va_Qi (fun (r : Int32) (_ : Nat → Nat) => (r = 1 ∧ x = 0) ∨ (r = 1 ∧ x = 1) ∨ (r = 1 ∧ x = 2) ∨ (r = 0 ∧ ¬ gIn 0 2 x)) (gAt D dA (va_A [] sz) (fun ad : Nat → Nat => [])) (va_A [] sz)) 0 0 (va_A [] sz) := by
  refine Met.ofW (cc := cX10_isModule) (maxL := 1) (ret := (some .boolean)) (by decide) rfl ?_
  intro p e s m args below meth c s₁ B hml hv
  obtain ⟨rfl, hsz, hP, hK, hD0⟩ := hv
  have hx := B.exec
  have hb := B.bytes
  have hr := B.returns
  have hts := atoms_spec (ws := gws yX10_isModule cX10_isModule 1 (some .boolean)) B.pre
  have hg : ∀ w ∈ gw, w.before _ s = true := fun w h => hts w (List.mem_cons_of_mem _ h)
  have hown : s.vm.findClass RX10 = some m.cls := findClass_of_methodNamed B.named
  have hlocks := B.notSynchronized
  subst hsz
  have hD := hD0.self (sz := s.heap.size)
  generalize hAe : va_A [] s.heap.size = A at hD ⊢
  have hA : ∀ q : Nat, s.heap.size ≤ q → A q := fun q h => by rw [← hAe]; exact Or.inr h
  have hS : va_S A s.heap s.heap [] := va_S.rf
  have hP : va_P D vwC [] s.heap := hP
  have hl := lv_entry ([.int x]) (n := 1) (Nat.le_of_ble_eq_true rfl)
  rw [lg_entry_eq]
  generalize (lg_sl ([.int x]) ++ List.replicate (1 - (lg_sl ([.int x])).length) Slot.unset).toArray = ls at hl ⊢
  have hl : lv_has ls 1 [(0, .int x)] := hl
  refine lv_iload_n hx hb dX10_isModule_0 rfl (lv_at hl 0 rfl) ?_
  refine lv_if_lt (tgt := 13) hx hb dX10_isModule_1 (by decide) (fun k1 => ?_) (fun k1 => ?_)
  · refine lv_iconst (v := 0) hx hb dX10_isModule_13 (by decide) ?_
    obtain ⟨hP, hD⟩ := g_cut (is := []) (w' := []) hP hD (by decide) rfl rfl
    have bk1 := gb_lt_r (k := 0) (by decide) k1
    exact g_iret hx hb hr rfl hlocks hK (fun k => ([] : List Nat).getD k 0) hP hD hS (Or.inr (Or.inr (Or.inr ⟨rfl, by unfold gIn; omega⟩))) (Nat.le_of_ble_eq_true rfl) (Nat.le_of_ble_eq_true rfl) dX10_isModule_14
  · refine lv_iload_n hx hb dX10_isModule_4 rfl (lv_at hl 0 rfl) ?_
    refine lv_iconst (v := 3) hx hb dX10_isModule_5 (by decide) ?_
    refine lv_icmp_ge (tgt := 13) hx hb dX10_isModule_6 (by decide) (fun k2 => ?_) (fun k2 => ?_)
    · refine lv_iconst (v := 0) hx hb dX10_isModule_13 (by decide) ?_
      obtain ⟨hP, hD⟩ := g_cut (is := []) (w' := []) hP hD (by decide) rfl rfl
      have bk1 := gb_nlt_r (k := 0) (by decide) k1
      have bk2 := gb_le_l (k := 3) (by decide) k2
      exact g_iret hx hb hr rfl hlocks hK (fun k => ([] : List Nat).getD k 0) hP hD hS (Or.inr (Or.inr (Or.inr ⟨rfl, by unfold gIn; omega⟩))) (Nat.le_of_ble_eq_true rfl) (Nat.le_of_ble_eq_true rfl) dX10_isModule_14
    · refine lv_iconst (v := 1) hx hb dX10_isModule_9 (by decide) ?_
      refine lv_goto (tgt := 14) hx hb dX10_isModule_10 (by decide) ?_
      obtain ⟨hP, hD⟩ := g_cut (is := []) (w' := []) hP hD (by decide) rfl rfl
      have bk1 := gb_nlt_r (k := 0) (by decide) k1
      have bk2 := gb_nle_l (k := 3) (by decide) k2
      exact g_iret hx hb hr rfl hlocks hK (fun k => ([] : List Nat).getD k 0) hP hD hS (by rcases g_in3 (x := x) (by omega) (by omega) with h | h | h; exact Or.inl ⟨rfl, h⟩; exact Or.inr (Or.inl ⟨rfl, h⟩); exact Or.inr (Or.inr (Or.inl ⟨rfl, h⟩))) (Nat.le_of_ble_eq_true rfl) (Nat.le_of_ble_eq_true rfl) dX10_isModule_14
set_option maxHeartbeats 4000000 in
set_option maxRecDepth 100000 in
theorem c_X10_tell (l : Launch) (D : va_G) (dA : Nat → ClassId) (h0 : Nat) (a0 : Nat) (a1 : Nat) (a2 : Nat) (a3 : Nat) (a4 : Nat) (a5 : Nat) (a6 : Nat) (a7 : Nat) (a8 : Nat) (sz : Nat) : Met l yX10_tell (gws yX10_tell cX10_tell 3 none) (gR 2 0 0) (gPre D dA [.ref h0, .int (-1), .int (-1)] [(h0, .inr (10, [.ref a0, .int 0, .int (-1), .int (-1), .ref a1, .ref a2, .ref a3, .ref a4, .ref a5, .ref a6, .ref a7, .ref a8]))] sz) (va_Qv (fun _ : Nat → Nat => True) (gAt D dA (va_A [(h0, .inr (10, [.ref a0, .int 0, .int (-1), .int (-1), .ref a1, .ref a2, .ref a3, .ref a4, .ref a5, .ref a6, .ref a7, .ref a8]))] sz) (fun ad : Nat → Nat => [(h0, .inr (10, [.ref a0, .int 0, .int (-1), .int (-1), .ref a1, .ref a2, .ref a3, .ref a4, .ref a5, .ref a6, .ref a7, .ref a8]))])) (va_A [(h0, .inr (10, [.ref a0, .int 0, .int (-1), .int (-1), .ref a1, .ref a2, .ref a3, .ref a4, .ref a5, .ref a6, .ref a7, .ref a8]))] sz)) 0 0 (va_A [(h0, .inr (10, [.ref a0, .int 0, .int (-1), .int (-1), .ref a1, .ref a2, .ref a3, .ref a4, .ref a5, .ref a6, .ref a7, .ref a8]))] sz) := by
  refine Met.ofW (cc := cX10_tell) (maxL := 3) (ret := none) (by decide) rfl ?_
  intro p e s m args below meth c s₁ B hml hv
  obtain ⟨rfl, hsz, hP, hK, hD0⟩ := hv
  have hx := B.exec
  have hb := B.bytes
  have hr := B.returns
  have hts := atoms_spec (ws := gws yX10_tell cX10_tell 3 none) B.pre
  have hg : ∀ w ∈ gw, w.before _ s = true := fun w h => hts w (List.mem_cons_of_mem _ h)
  have hown : s.vm.findClass RX10 = some m.cls := findClass_of_methodNamed B.named
  have hlocks := B.notSynchronized
  subst hsz
  have hD := hD0.self (sz := s.heap.size)
  generalize hAe : va_A [(h0, .inr (10, [.ref a0, .int 0, .int (-1), .int (-1), .ref a1, .ref a2, .ref a3, .ref a4, .ref a5, .ref a6, .ref a7, .ref a8]))] s.heap.size = A at hD ⊢
  have hA : ∀ q : Nat, s.heap.size ≤ q → A q := fun q h => by rw [← hAe]; exact Or.inr h
  have hS : va_S A s.heap s.heap [] := va_S.rf
  have hP : va_P D vwC [(h0, .inr (10, [.ref a0, .int 0, .int (-1), .int (-1), .ref a1, .ref a2, .ref a3, .ref a4, .ref a5, .ref a6, .ref a7, .ref a8]))] s.heap := hP
  have hl := lv_entry ([.ref h0, .int (-1), .int (-1)]) (n := 3) (Nat.le_of_ble_eq_true rfl)
  rw [lg_entry_eq]
  generalize (lg_sl ([.ref h0, .int (-1), .int (-1)]) ++ List.replicate (3 - (lg_sl ([.ref h0, .int (-1), .int (-1)])).length) Slot.unset).toArray = ls at hl ⊢
  have hl : lv_has ls 3 [(0, .ref h0), (1, .int (-1)), (2, .int (-1))] := hl
  refine lv_aload_n hx hb dX10_tell_0 rfl (lv_at hl 0 rfl) ?_
  refine lv_iload_n hx hb dX10_tell_1 rfl (lv_at hl 1 rfl) ?_
  refine g_put (w' := [(h0, .inr (10, [.ref a0, .int 0, .int (-1), .int (-1), .ref a1, .ref a2, .ref a3, .ref a4, .ref a5, .ref a6, .ref a7, .ref a8]))]) hx hb hg hown hK hP hD hS 0 rfl rfl inX10 tyX10_ok nmX10 2 (by decide) q608 rfl rfl rfl (Nat.le_of_ble_eq_true rfl) rfl dX10_tell_2 (fun H locs hP hD hS => ?_)
  refine lv_aload_n hx hb dX10_tell_5 rfl (lv_at hl 0 rfl) ?_
  refine lv_iload_n hx hb dX10_tell_6 rfl (lv_at hl 2 rfl) ?_
  refine g_put (w' := [(h0, .inr (10, [.ref a0, .int 0, .int (-1), .int (-1), .ref a1, .ref a2, .ref a3, .ref a4, .ref a5, .ref a6, .ref a7, .ref a8]))]) hx hb hg hown hK hP hD hS 0 rfl rfl inX10 tyX10_ok nmX10 3 (by decide) q609 rfl rfl rfl (Nat.le_of_ble_eq_true rfl) rfl dX10_tell_7 (fun H locs hP hD hS => ?_)
  obtain ⟨hP, hD⟩ := g_cut (is := [0]) (w' := [(h0, .inr (10, [.ref a0, .int 0, .int (-1), .int (-1), .ref a1, .ref a2, .ref a3, .ref a4, .ref a5, .ref a6, .ref a7, .ref a8]))]) hP hD (by decide) rfl rfl
  exact g_vret hx hb hr hlocks hK (fun k => ([] : List Nat).getD k 0) hP hD hS trivial (Nat.le_of_ble_eq_true rfl) (Nat.le_of_ble_eq_true rfl) dX10_tell_10
