theorem q1615 : Cond.fieldLink RX11 263 "SegmentBenchModel" "thrown" "I" ∈ gw := gw_in (i := 1615) (by decide +kernel) rfl
theorem dX11_raise_0 : decode cX11_raise 0 = .ok (.aload_n 0, 1) := by decide +kernel
theorem dX11_raise_1 : decode cX11_raise 1 = .ok (.iload_n 1, 1) := by decide +kernel
theorem dX11_raise_2 : decode cX11_raise 2 = .ok (.putfield 263, 3) := by decide +kernel
theorem dX11_raise_5 : decode cX11_raise 5 = .ok (.iconst 0, 1) := by decide +kernel
theorem dX11_raise_6 : decode cX11_raise 6 = .ok (.ireturn, 1) := by decide +kernel
theorem dX11_thrown_0 : decode cX11_thrown 0 = .ok (.aload_n 0, 1) := by decide +kernel
theorem dX11_thrown_1 : decode cX11_thrown 1 = .ok (.getfield 263, 3) := by decide +kernel
theorem dX11_thrown_4 : decode cX11_thrown 4 = .ok (.ireturn, 1) := by decide +kernel
theorem g_ad {a : Nat} {c : Int32} (hc : c = nI a) (i : Nat) : c + nI i = nI (a + i) := by rw [hc, nI_add]
section GLP
variable {p : Program} {l : Launch} {e : Env} {R : Room} {s : State} {m : MethodId} {args : Array Value} {below : List Frame} {meth : Method} {c : Code} {cells slots : Nat} {Q : State → Prop}
variable {pc : Nat} {D : va_G} {A : Nat → Prop} {H0 : Heap}
/-- a loop whose world stays, its locals by a number -/
theorem g_lp {w : va_W} {nL : Nat} {lv : Nat → List (Nat × Value)} (N : Nat) (hs : ∀ i : Nat, i < N → (∀ (H : Heap) (locs : List Loc) (ls : Array Slot), va_P D vwC w H → va_S A H0 H locs → lv_has ls nL (lv (i + 1)) → W p l e R s m args below meth c H locs cells slots Q (F0 m pc ls [])) → ∀ (H : Heap) (locs : List Loc) (ls : Array Slot), va_P D vwC w H → va_S A H0 H locs → lv_has ls nL (lv i) → W p l e R s m args below meth c H locs cells slots Q (F0 m pc ls []))
    (he : ∀ (H : Heap) (locs : List Loc) (ls : Array Slot), va_P D vwC w H → va_S A H0 H locs → lv_has ls nL (lv N) → W p l e R s m args below meth c H locs cells slots Q (F0 m pc ls [])) :
    ∀ (H : Heap) (locs : List Loc) (ls : Array Slot), va_P D vwC w H → va_S A H0 H locs → lv_has ls nL (lv 0) → W p l e R s m args below meth c H locs cells slots Q (F0 m pc ls []) := by
  have h : ∀ k i : Nat, i + k = N → ∀ (H : Heap) (locs : List Loc) (ls : Array Slot), va_P D vwC w H → va_S A H0 H locs → lv_has ls nL (lv i) → W p l e R s m args below meth c H locs cells slots Q (F0 m pc ls []) := by
    intro k
    induction k with
    | zero =>
      intro i hi
      have e0 : i = N := by omega
      subst e0
      exact he
    | succ k ih =>
      intro i hi
      exact hs i (by omega) (ih (i + 1) (by omega))
  exact h N 0 (by omega)
end GLP
set_option maxHeartbeats 4000000 in
set_option maxRecDepth 100000 in
theorem c_raise (l : Launch) (D : va_G) (dA : Nat → ClassId) (h0 : Nat) (fs : List Value) (k : Int32) (hf : 0 < fs.length) (sz : Nat) : Met l yX11_raise (gws yX11_raise cX11_raise 2 (some .int)) (gR 2 0 0) (gPre D dA [.ref h0, .int k] [(h0, .inr (11, fs))] sz) (va_Qi (fun (r : Int32) (_ : Nat → Nat) => r = 0) (gAt D dA (va_A [(h0, .inr (11, fs))] sz) (fun _ : Nat → Nat => [(h0, .inr (11, fs.set 0 (.int k)))])) (va_A [(h0, .inr (11, fs))] sz)) 0 0 (va_A [(h0, .inr (11, fs))] sz) := by
  refine Met.ofW (cc := cX11_raise) (maxL := 2) (ret := (some .int)) (by decide) rfl ?_
  intro p e s m args below meth c s₁ B hml hv
  obtain ⟨rfl, hsz, hP, hK, hD0⟩ := hv
  have hx := B.exec
  have hb := B.bytes
  have hr := B.returns
  have hts := atoms_spec (ws := gws yX11_raise cX11_raise 2 (some .int)) B.pre
  have hg : ∀ w ∈ gw, w.before _ s = true := fun w h => hts w (List.mem_cons_of_mem _ h)
  have hown : s.vm.findClass RX11 = some m.cls := findClass_of_methodNamed B.named
  have hlocks := B.notSynchronized
  subst hsz
  have hD := hD0.self (sz := s.heap.size)
  generalize hAe : va_A [(h0, .inr (11, fs))] s.heap.size = A at hD ⊢
  have hA : ∀ q : Nat, s.heap.size ≤ q → A q := fun q h => by rw [← hAe]; exact Or.inr h
  have hS : va_S A s.heap s.heap [] := va_S.rf
  have hP : va_P D vwC [(h0, .inr (11, fs))] s.heap := hP
  have hl := lv_entry ([.ref h0, .int k]) (n := 2) (Nat.le_of_ble_eq_true rfl)
  rw [lg_entry_eq]
  generalize (lg_sl ([.ref h0, .int k]) ++ List.replicate (2 - (lg_sl ([.ref h0, .int k])).length) Slot.unset).toArray = ls at hl ⊢
  have hl : lv_has ls 2 [(0, .ref h0), (1, .int k)] := hl
  refine lv_aload_n hx hb dX11_raise_0 rfl (lv_at hl 0 rfl) ?_
  refine lv_iload_n hx hb dX11_raise_1 rfl (lv_at hl 1 rfl) ?_
  refine g_put (w' := [(h0, .inr (11, fs.set 0 (.int k)))]) hx hb hg hown hK hP hD hS 0 rfl rfl inX11 tyX11_ok nmX11 0 (by decide) q1615 rfl rfl rfl hf rfl dX11_raise_2 (fun H locs hP hD hS => ?_)
  refine lv_iconst (v := 0) hx hb dX11_raise_5 (by decide) ?_
  exact g_iret hx hb hr rfl hlocks hK (fun _ => 0) hP hD hS rfl (Nat.le_refl _) (Nat.le_refl _) dX11_raise_6
set_option maxHeartbeats 4000000 in
set_option maxRecDepth 100000 in
theorem c_thrown (l : Launch) (D : va_G) (dA : Nat → ClassId) (h0 : Nat) (fs : List Value) (k : Int32) (hf : fs[0]? = some (.int k)) (sz : Nat) : Met l yX11_thrown (gws yX11_thrown cX11_thrown 1 (some .int)) (gR 2 0 0) (gPre D dA [.ref h0] [(h0, .inr (11, fs))] sz) (va_Qi (fun (r : Int32) (_ : Nat → Nat) => r = k) (gAt D dA (va_A [(h0, .inr (11, fs))] sz) (fun _ : Nat → Nat => [(h0, .inr (11, fs))])) (va_A [(h0, .inr (11, fs))] sz)) 0 0 (va_A [(h0, .inr (11, fs))] sz) := by
  refine Met.ofW (cc := cX11_thrown) (maxL := 1) (ret := (some .int)) (by decide) rfl ?_
  intro p e s m args below meth c s₁ B hml hv
  obtain ⟨rfl, hsz, hP, hK, hD0⟩ := hv
  have hx := B.exec
  have hb := B.bytes
  have hr := B.returns
  have hts := atoms_spec (ws := gws yX11_thrown cX11_thrown 1 (some .int)) B.pre
  have hg : ∀ w ∈ gw, w.before _ s = true := fun w h => hts w (List.mem_cons_of_mem _ h)
  have hown : s.vm.findClass RX11 = some m.cls := findClass_of_methodNamed B.named
  have hlocks := B.notSynchronized
  subst hsz
  have hD := hD0.self (sz := s.heap.size)
  generalize hAe : va_A [(h0, .inr (11, fs))] s.heap.size = A at hD ⊢
  have hA : ∀ q : Nat, s.heap.size ≤ q → A q := fun q h => by rw [← hAe]; exact Or.inr h
  have hS : va_S A s.heap s.heap [] := va_S.rf
  have hP : va_P D vwC [(h0, .inr (11, fs))] s.heap := hP
  have hl := lv_entry ([.ref h0]) (n := 1) (Nat.le_of_ble_eq_true rfl)
  rw [lg_entry_eq]
  generalize (lg_sl ([.ref h0]) ++ List.replicate (1 - (lg_sl ([.ref h0])).length) Slot.unset).toArray = ls at hl ⊢
  have hl : lv_has ls 1 [(0, .ref h0)] := hl
  refine lv_aload_n hx hb dX11_thrown_0 rfl (lv_at hl 0 rfl) ?_
  refine g_get hx hb hg hown hK hP 0 rfl rfl inX11 0 (by decide) q1615 hf dX11_thrown_1 ?_
  exact g_iret hx hb hr rfl hlocks hK (fun _ => 0) hP hD hS rfl (Nat.le_refl _) (Nat.le_refl _) dX11_thrown_4
