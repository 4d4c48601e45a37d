theorem dJ7_fill_53178_0 : decode cJ7_fill_53178 0 = .ok (.iconst 0, 1) := by decide +kernel
theorem dJ7_fill_53178_1 : decode cJ7_fill_53178 1 = .ok (.istore_n 2, 1) := by decide +kernel
theorem dJ7_fill_53178_2 : decode cJ7_fill_53178 2 = .ok (.aload_n 0, 1) := by decide +kernel
theorem dJ7_fill_53178_3 : decode cJ7_fill_53178 3 = .ok (.arraylength, 1) := by decide +kernel
theorem dJ7_fill_53178_4 : decode cJ7_fill_53178 4 = .ok (.istore_n 3, 1) := by decide +kernel
theorem dJ7_fill_53178_5 : decode cJ7_fill_53178 5 = .ok (.iload_n 2, 1) := by decide +kernel
theorem dJ7_fill_53178_6 : decode cJ7_fill_53178 6 = .ok (.iload_n 3, 1) := by decide +kernel
theorem dJ7_fill_53178_7 : decode cJ7_fill_53178 7 = .ok (.if_icmp .ge 13, 3) := by decide +kernel
theorem dJ7_fill_53178_10 : decode cJ7_fill_53178 10 = .ok (.aload_n 0, 1) := by decide +kernel
theorem dJ7_fill_53178_11 : decode cJ7_fill_53178 11 = .ok (.iload_n 2, 1) := by decide +kernel
theorem dJ7_fill_53178_12 : decode cJ7_fill_53178 12 = .ok (.iload_n 1, 1) := by decide +kernel
theorem dJ7_fill_53178_13 : decode cJ7_fill_53178 13 = .ok (.iastore, 1) := by decide +kernel
theorem dJ7_fill_53178_14 : decode cJ7_fill_53178 14 = .ok (.iinc 2 1, 3) := by decide +kernel
theorem dJ7_fill_53178_17 : decode cJ7_fill_53178 17 = .ok (.goto (-12), 3) := by decide +kernel
theorem dJ7_fill_53178_20 : decode cJ7_fill_53178 20 = .ok (.return_, 1) := by decide +kernel
set_option maxHeartbeats 4000000 in
set_option maxRecDepth 100000 in
theorem s_fill_400_L5 {p : Program} {e : Env} {s : State} {m : MethodId} {args : Array Value} {below : List Frame} {meth : Method} {c : Code} {l : Launch} {D : va_G} {dA : Nat → ClassId} {A : Nat → Prop} (hx : p.tables.exec = Jvm.exec) (hb : c.code = cJ7_fill_53178) (hr : meth.sig.returnType = none) (hml : c.maxLocals = 4) (hown : s.vm.findClass RJ7 = some m.cls) (hg : ∀ w ∈ gw, w.before args s = true) (hlocks : meth.locks = false) (hA : ∀ q : Nat, s.heap.size ≤ q → A q) (hK : gK D dA s) {t0 : Nat} {a0 : Int32} (z0 : 0 ≤ a0.toInt ∧ a0.toInt ≤ 255) : ∀ (n : Nat) (v2 : Int32) (h0_f : Nat → Int32) , (0 ≤ v2.toInt ∧ v2.toInt ≤ 400) → (∀ j : Nat, 0 ≤ (h0_f j).toInt ∧ (h0_f j).toInt ≤ 255) → (400 - v2.toInt).toNat < n → ∀ (H : Heap) (locs : List Loc) (ls : Array Slot), va_P D vwC [(t0, .inl (dA 0, 400, .inl h0_f))] H → va_D A [(t0, .inl (dA 0, 400, .inl h0_f))] → va_S A s.heap H locs → lv_has ls 4 [(3, .int 400), (2, .int v2), (0, .ref t0), (1, .int a0)] → W p l e (gR 1 0 0) s m args below meth c H locs 0 0 (MQ below (va_Qv (fun u : (Nat → Int32) => (∀ j : Nat, 0 ≤ (u j).toInt ∧ (u j).toInt ≤ 255)) (gAt D dA A (fun u : (Nat → Int32) => [(t0, .inl (dA 0, 400, .inl u))])) A) args s 0 0 A) (F0 m 5 ls []) := by
  intro n
  induction n with
  | zero =>
    intro v2 h0_f y0 y1 hn
    exact absurd hn (Nat.not_lt_zero _)
  | succ n ih =>
    intro v2 h0_f y0 y1 hn H locs ls hP hD hS hl
    refine lv_iload_n hx hb dJ7_fill_53178_5 rfl (lv_at hl 1 rfl) ?_
    refine lv_iload_n hx hb dJ7_fill_53178_6 rfl (lv_at hl 0 rfl) ?_
    refine lv_icmp_ge (tgt := 20) hx hb dJ7_fill_53178_7 (by decide) (fun k1 => ?_) (fun k1 => ?_)
    · have g2 : 400 ≤ v2.toInt := gi_le (by decide : (400 : Int32).toInt = 400) (rfl : v2.toInt = v2.toInt) k1
      exact g_vret hx hb hr hlocks hK h0_f hP hD hS y1 (Nat.le_of_ble_eq_true rfl) (Nat.le_of_ble_eq_true rfl) dJ7_fill_53178_20
    · have g3 : 400 > v2.toInt := gi_nle (by decide : (400 : Int32).toInt = 400) (rfl : v2.toInt = v2.toInt) k1
      refine lv_aload_n hx hb dJ7_fill_53178_10 rfl (lv_at hl 2 rfl) ?_
      refine lv_iload_n hx hb dJ7_fill_53178_11 rfl (lv_at hl 1 rfl) ?_
      refine lv_iload_n hx hb dJ7_fill_53178_12 rfl (lv_at hl 3 rfl) ?_
      refine va_iast hx hb hK hP hD hS 0 0 rfl rfl (by rw [vp_in_iff]; omega) dJ7_fill_53178_13 (fun H locs hP hD hS => ?_)
      have hP : va_P D vwC [(t0, .inl (dA 0, 400, .inl (upd h0_f (v2 : Int32).toNatClampNeg a0)))] H := hP
      have hD : va_D A [(t0, .inl (dA 0, 400, .inl (upd h0_f (v2 : Int32).toNatClampNeg a0)))] := hD
      obtain ⟨f4, ef4⟩ : ∃ f : Nat → Int32, f = (upd h0_f (v2 : Int32).toNatClampNeg a0) := ⟨_, rfl⟩
      rw [← ef4] at hP hD
      have hf4 : ∀ j : Nat, 0 ≤ (f4 j).toInt ∧ (f4 j).toInt ≤ 255 := by rw [ef4]; exact g_updB y1 (by omega) (by omega)
      obtain ⟨x5, e6⟩ : ∃ y : Int32, y = v2 + 1 := ⟨_, rfl⟩
      have g7 : x5.toInt = v2.toInt + 1 := g_add e6 rfl (by decide) (by omega) (by omega)
      refine lv_iinc (v := x5) (lv' := [(2, .int x5), (3, .int 400), (0, .ref t0), (1, .int a0)]) hx hb dJ7_fill_53178_14 hl (k := 1) rfl (by rw [e6]; rfl) (by decide) rfl (fun ls hl => ?_)
      refine lv_goto (tgt := 5) hx hb dJ7_fill_53178_17 (by decide) ?_
      exact ih x5 f4 (by omega) hf4 (by omega) _ _ _ (hP.sub [0] rfl) (hD.sub [0] (by decide) rfl) hS (lv_sub hl [1, 0, 2, 3] rfl)
set_option maxHeartbeats 4000000 in
set_option maxRecDepth 100000 in
theorem s_fill_400 (l : Launch) (D : va_G) (dA : Nat → ClassId) (t0 : Nat) (a0 : Int32) (m0 : Nat → Int32) (p0 : 0 ≤ a0.toInt ∧ a0.toInt ≤ 255) (p1 : ∀ j : Nat, 0 ≤ (m0 j).toInt ∧ (m0 j).toInt ≤ 255) (sz : Nat) : Met l yJ7_fill_53178 (gws yJ7_fill_53178 cJ7_fill_53178 4 none) (gR 1 0 0) (gPre D dA [.ref t0, .int a0] [(t0, .inl (dA 0, 400, .inl m0))] sz) (va_Qv (fun u : (Nat → Int32) => (∀ j : Nat, 0 ≤ (u j).toInt ∧ (u j).toInt ≤ 255)) (gAt D dA (va_A [(t0, .inl (dA 0, 400, .inl m0))] sz) (fun u : (Nat → Int32) => [(t0, .inl (dA 0, 400, .inl u))])) (va_A [(t0, .inl (dA 0, 400, .inl m0))] sz)) 0 0 (va_A [(t0, .inl (dA 0, 400, .inl m0))] sz) := by
  refine Met.ofW (cc := cJ7_fill_53178) (maxL := 4) (ret := none) (by decide) rfl ?_
  intro p e s m args below meth c s₁ B hml hv
  obtain ⟨rfl, hsz, hP, hK, hD0⟩ := hv
  have hx := B.exec
  have hb := B.bytes
  have hr := B.returns
  have hts := atoms_spec (ws := gws yJ7_fill_53178 cJ7_fill_53178 4 none) B.pre
  have hg : ∀ w ∈ gw, w.before _ s = true := fun w h => hts w (List.mem_cons_of_mem _ h)
  have hown : s.vm.findClass RJ7 = some m.cls := findClass_of_methodNamed B.named
  have hlocks := B.notSynchronized
  subst hsz
  have hD := hD0.self (sz := s.heap.size)
  generalize hAe : va_A [(t0, .inl (dA 0, 400, .inl m0))] s.heap.size = A at hD ⊢
  have hA : ∀ q : Nat, s.heap.size ≤ q → A q := fun q h => by rw [← hAe]; exact Or.inr h
  have hS : va_S A s.heap s.heap [] := va_S.rf
  have hP : va_P D vwC [(t0, .inl (dA 0, 400, .inl m0))] s.heap := hP
  have hl := lv_entry ([.ref t0, .int a0]) (n := 4) (Nat.le_of_ble_eq_true rfl)
  rw [lg_entry_eq]
  generalize (lg_sl ([.ref t0, .int a0]) ++ List.replicate (4 - (lg_sl ([.ref t0, .int a0])).length) Slot.unset).toArray = ls at hl ⊢
  have hl : lv_has ls 4 [(0, .ref t0), (1, .int a0)] := hl
  refine lv_iconst (v := 0) hx hb dJ7_fill_53178_0 (by decide) ?_
  refine lv_istore_n (lv' := [(2, .int 0), (0, .ref t0), (1, .int a0)]) hx hb dJ7_fill_53178_1 rfl hl (by decide) rfl (fun ls hl => ?_)
  refine lv_aload_n hx hb dJ7_fill_53178_2 rfl (lv_at hl 1 rfl) ?_
  refine va_alen (v := 400) hx hb hK hP 0 0 rfl rfl (show Int32.ofNat 400 = 400 from by decide) dJ7_fill_53178_3 ?_
  refine lv_istore_n (lv' := [(3, .int 400), (2, .int 0), (0, .ref t0), (1, .int a0)]) hx hb dJ7_fill_53178_4 rfl hl (by decide) rfl (fun ls hl => ?_)
  exact s_fill_400_L5 hx hb hr hml hown hg hlocks hA hK (by have q_0 : (400 : Int32).toInt = 400 := (by decide); have q_1 : (0 : Int32).toInt = 0 := (by decide); omega) _ 0 m0 (by have q_0 : (400 : Int32).toInt = 400 := (by decide); have q_1 : (0 : Int32).toInt = 0 := (by decide); omega) p1 (Nat.lt_succ_self _) _ _ _ (hP.sub [0] rfl) (hD.sub [0] (by decide) rfl) hS (lv_sub hl [0, 1, 2, 3] rfl)
set_option maxHeartbeats 4000000 in
set_option maxRecDepth 100000 in
theorem s_fill_1200_L5 {p : Program} {e : Env} {s : State} {m : MethodId} {args : Array Value} {below : List Frame} {meth : Method} {c : Code} {l : Launch} {D : va_G} {dA : Nat → ClassId} {A : Nat → Prop} (hx : p.tables.exec = Jvm.exec) (hb : c.code = cJ7_fill_53178) (hr : meth.sig.returnType = none) (hml : c.maxLocals = 4) (hown : s.vm.findClass RJ7 = some m.cls) (hg : ∀ w ∈ gw, w.before args s = true) (hlocks : meth.locks = false) (hA : ∀ q : Nat, s.heap.size ≤ q → A q) (hK : gK D dA s) {t0 : Nat} {a0 : Int32} (z0 : 0 ≤ a0.toInt ∧ a0.toInt ≤ 255) : ∀ (n : Nat) (v2 : Int32) (h0_f : Nat → Int32) , (0 ≤ v2.toInt ∧ v2.toInt ≤ 1200) → (∀ j : Nat, 0 ≤ (h0_f j).toInt ∧ (h0_f j).toInt ≤ 255) → (1200 - v2.toInt).toNat < n → ∀ (H : Heap) (locs : List Loc) (ls : Array Slot), va_P D vwC [(t0, .inl (dA 0, 1200, .inl h0_f))] H → va_D A [(t0, .inl (dA 0, 1200, .inl h0_f))] → va_S A s.heap H locs → lv_has ls 4 [(3, .int 1200), (2, .int v2), (0, .ref t0), (1, .int a0)] → W p l e (gR 1 0 0) s m args below meth c H locs 0 0 (MQ below (va_Qv (fun u : (Nat → Int32) => (∀ j : Nat, 0 ≤ (u j).toInt ∧ (u j).toInt ≤ 255)) (gAt D dA A (fun u : (Nat → Int32) => [(t0, .inl (dA 0, 1200, .inl u))])) A) args s 0 0 A) (F0 m 5 ls []) := by
  intro n
  induction n with
  | zero =>
    intro v2 h0_f y0 y1 hn
    exact absurd hn (Nat.not_lt_zero _)
  | succ n ih =>
    intro v2 h0_f y0 y1 hn H locs ls hP hD hS hl
    refine lv_iload_n hx hb dJ7_fill_53178_5 rfl (lv_at hl 1 rfl) ?_
    refine lv_iload_n hx hb dJ7_fill_53178_6 rfl (lv_at hl 0 rfl) ?_
    refine lv_icmp_ge (tgt := 20) hx hb dJ7_fill_53178_7 (by decide) (fun k1 => ?_) (fun k1 => ?_)
    · have g2 : 1200 ≤ v2.toInt := gi_le (by decide : (1200 : Int32).toInt = 1200) (rfl : v2.toInt = v2.toInt) k1
      exact g_vret hx hb hr hlocks hK h0_f hP hD hS y1 (Nat.le_of_ble_eq_true rfl) (Nat.le_of_ble_eq_true rfl) dJ7_fill_53178_20
    · have g3 : 1200 > v2.toInt := gi_nle (by decide : (1200 : Int32).toInt = 1200) (rfl : v2.toInt = v2.toInt) k1
      refine lv_aload_n hx hb dJ7_fill_53178_10 rfl (lv_at hl 2 rfl) ?_
      refine lv_iload_n hx hb dJ7_fill_53178_11 rfl (lv_at hl 1 rfl) ?_
      refine lv_iload_n hx hb dJ7_fill_53178_12 rfl (lv_at hl 3 rfl) ?_
      refine va_iast hx hb hK hP hD hS 0 0 rfl rfl (by rw [vp_in_iff]; omega) dJ7_fill_53178_13 (fun H locs hP hD hS => ?_)
      have hP : va_P D vwC [(t0, .inl (dA 0, 1200, .inl (upd h0_f (v2 : Int32).toNatClampNeg a0)))] H := hP
      have hD : va_D A [(t0, .inl (dA 0, 1200, .inl (upd h0_f (v2 : Int32).toNatClampNeg a0)))] := hD
      obtain ⟨f4, ef4⟩ : ∃ f : Nat → Int32, f = (upd h0_f (v2 : Int32).toNatClampNeg a0) := ⟨_, rfl⟩
      rw [← ef4] at hP hD
      have hf4 : ∀ j : Nat, 0 ≤ (f4 j).toInt ∧ (f4 j).toInt ≤ 255 := by rw [ef4]; exact g_updB y1 (by omega) (by omega)
      obtain ⟨x5, e6⟩ : ∃ y : Int32, y = v2 + 1 := ⟨_, rfl⟩
      have g7 : x5.toInt = v2.toInt + 1 := g_add e6 rfl (by decide) (by omega) (by omega)
      refine lv_iinc (v := x5) (lv' := [(2, .int x5), (3, .int 1200), (0, .ref t0), (1, .int a0)]) hx hb dJ7_fill_53178_14 hl (k := 1) rfl (by rw [e6]; rfl) (by decide) rfl (fun ls hl => ?_)
      refine lv_goto (tgt := 5) hx hb dJ7_fill_53178_17 (by decide) ?_
      exact ih x5 f4 (by omega) hf4 (by omega) _ _ _ (hP.sub [0] rfl) (hD.sub [0] (by decide) rfl) hS (lv_sub hl [1, 0, 2, 3] rfl)
set_option maxHeartbeats 4000000 in
set_option maxRecDepth 100000 in
theorem s_fill_1200 (l : Launch) (D : va_G) (dA : Nat → ClassId) (t0 : Nat) (a0 : Int32) (m0 : Nat → Int32) (p0 : 0 ≤ a0.toInt ∧ a0.toInt ≤ 255) (p1 : ∀ j : Nat, 0 ≤ (m0 j).toInt ∧ (m0 j).toInt ≤ 255) (sz : Nat) : Met l yJ7_fill_53178 (gws yJ7_fill_53178 cJ7_fill_53178 4 none) (gR 1 0 0) (gPre D dA [.ref t0, .int a0] [(t0, .inl (dA 0, 1200, .inl m0))] sz) (va_Qv (fun u : (Nat → Int32) => (∀ j : Nat, 0 ≤ (u j).toInt ∧ (u j).toInt ≤ 255)) (gAt D dA (va_A [(t0, .inl (dA 0, 1200, .inl m0))] sz) (fun u : (Nat → Int32) => [(t0, .inl (dA 0, 1200, .inl u))])) (va_A [(t0, .inl (dA 0, 1200, .inl m0))] sz)) 0 0 (va_A [(t0, .inl (dA 0, 1200, .inl m0))] sz) := by
  refine Met.ofW (cc := cJ7_fill_53178) (maxL := 4) (ret := none) (by decide) rfl ?_
  intro p e s m args below meth c s₁ B hml hv
  obtain ⟨rfl, hsz, hP, hK, hD0⟩ := hv
  have hx := B.exec
  have hb := B.bytes
  have hr := B.returns
  have hts := atoms_spec (ws := gws yJ7_fill_53178 cJ7_fill_53178 4 none) B.pre
  have hg : ∀ w ∈ gw, w.before _ s = true := fun w h => hts w (List.mem_cons_of_mem _ h)
  have hown : s.vm.findClass RJ7 = some m.cls := findClass_of_methodNamed B.named
  have hlocks := B.notSynchronized
  subst hsz
  have hD := hD0.self (sz := s.heap.size)
  generalize hAe : va_A [(t0, .inl (dA 0, 1200, .inl m0))] s.heap.size = A at hD ⊢
  have hA : ∀ q : Nat, s.heap.size ≤ q → A q := fun q h => by rw [← hAe]; exact Or.inr h
  have hS : va_S A s.heap s.heap [] := va_S.rf
  have hP : va_P D vwC [(t0, .inl (dA 0, 1200, .inl m0))] s.heap := hP
  have hl := lv_entry ([.ref t0, .int a0]) (n := 4) (Nat.le_of_ble_eq_true rfl)
  rw [lg_entry_eq]
  generalize (lg_sl ([.ref t0, .int a0]) ++ List.replicate (4 - (lg_sl ([.ref t0, .int a0])).length) Slot.unset).toArray = ls at hl ⊢
  have hl : lv_has ls 4 [(0, .ref t0), (1, .int a0)] := hl
  refine lv_iconst (v := 0) hx hb dJ7_fill_53178_0 (by decide) ?_
  refine lv_istore_n (lv' := [(2, .int 0), (0, .ref t0), (1, .int a0)]) hx hb dJ7_fill_53178_1 rfl hl (by decide) rfl (fun ls hl => ?_)
  refine lv_aload_n hx hb dJ7_fill_53178_2 rfl (lv_at hl 1 rfl) ?_
  refine va_alen (v := 1200) hx hb hK hP 0 0 rfl rfl (show Int32.ofNat 1200 = 1200 from by decide) dJ7_fill_53178_3 ?_
  refine lv_istore_n (lv' := [(3, .int 1200), (2, .int 0), (0, .ref t0), (1, .int a0)]) hx hb dJ7_fill_53178_4 rfl hl (by decide) rfl (fun ls hl => ?_)
  exact s_fill_1200_L5 hx hb hr hml hown hg hlocks hA hK (by have q_0 : (1200 : Int32).toInt = 1200 := (by decide); have q_1 : (0 : Int32).toInt = 0 := (by decide); omega) _ 0 m0 (by have q_0 : (1200 : Int32).toInt = 1200 := (by decide); have q_1 : (0 : Int32).toInt = 0 := (by decide); omega) p1 (Nat.lt_succ_self _) _ _ _ (hP.sub [0] rfl) (hD.sub [0] (by decide) rfl) hS (lv_sub hl [0, 1, 2, 3] rfl)
set_option maxHeartbeats 4000000 in
set_option maxRecDepth 100000 in
theorem s_fill_4096_L5 {p : Program} {e : Env} {s : State} {m : MethodId} {args : Array Value} {below : List Frame} {meth : Method} {c : Code} {l : Launch} {D : va_G} {dA : Nat → ClassId} {A : Nat → Prop} (hx : p.tables.exec = Jvm.exec) (hb : c.code = cJ7_fill_53178) (hr : meth.sig.returnType = none) (hml : c.maxLocals = 4) (hown : s.vm.findClass RJ7 = some m.cls) (hg : ∀ w ∈ gw, w.before args s = true) (hlocks : meth.locks = false) (hA : ∀ q : Nat, s.heap.size ≤ q → A q) (hK : gK D dA s) {t0 : Nat} {a0 : Int32} (z0 : 0 ≤ a0.toInt ∧ a0.toInt ≤ 255) : ∀ (n : Nat) (v2 : Int32) (h0_f : Nat → Int32) , (0 ≤ v2.toInt ∧ v2.toInt ≤ 4096) → (∀ j : Nat, 0 ≤ (h0_f j).toInt ∧ (h0_f j).toInt ≤ 255) → (4096 - v2.toInt).toNat < n → ∀ (H : Heap) (locs : List Loc) (ls : Array Slot), va_P D vwC [(t0, .inl (dA 0, 4096, .inl h0_f))] H → va_D A [(t0, .inl (dA 0, 4096, .inl h0_f))] → va_S A s.heap H locs → lv_has ls 4 [(3, .int 4096), (2, .int v2), (0, .ref t0), (1, .int a0)] → W p l e (gR 1 0 0) s m args below meth c H locs 0 0 (MQ below (va_Qv (fun u : (Nat → Int32) => (∀ j : Nat, 0 ≤ (u j).toInt ∧ (u j).toInt ≤ 255)) (gAt D dA A (fun u : (Nat → Int32) => [(t0, .inl (dA 0, 4096, .inl u))])) A) args s 0 0 A) (F0 m 5 ls []) := by
  intro n
  induction n with
  | zero =>
    intro v2 h0_f y0 y1 hn
    exact absurd hn (Nat.not_lt_zero _)
  | succ n ih =>
    intro v2 h0_f y0 y1 hn H locs ls hP hD hS hl
    refine lv_iload_n hx hb dJ7_fill_53178_5 rfl (lv_at hl 1 rfl) ?_
    refine lv_iload_n hx hb dJ7_fill_53178_6 rfl (lv_at hl 0 rfl) ?_
    refine lv_icmp_ge (tgt := 20) hx hb dJ7_fill_53178_7 (by decide) (fun k1 => ?_) (fun k1 => ?_)
    · have g2 : 4096 ≤ v2.toInt := gi_le (by decide : (4096 : Int32).toInt = 4096) (rfl : v2.toInt = v2.toInt) k1
      exact g_vret hx hb hr hlocks hK h0_f hP hD hS y1 (Nat.le_of_ble_eq_true rfl) (Nat.le_of_ble_eq_true rfl) dJ7_fill_53178_20
    · have g3 : 4096 > v2.toInt := gi_nle (by decide : (4096 : Int32).toInt = 4096) (rfl : v2.toInt = v2.toInt) k1
      refine lv_aload_n hx hb dJ7_fill_53178_10 rfl (lv_at hl 2 rfl) ?_
      refine lv_iload_n hx hb dJ7_fill_53178_11 rfl (lv_at hl 1 rfl) ?_
      refine lv_iload_n hx hb dJ7_fill_53178_12 rfl (lv_at hl 3 rfl) ?_
      refine va_iast hx hb hK hP hD hS 0 0 rfl rfl (by rw [vp_in_iff]; omega) dJ7_fill_53178_13 (fun H locs hP hD hS => ?_)
      have hP : va_P D vwC [(t0, .inl (dA 0, 4096, .inl (upd h0_f (v2 : Int32).toNatClampNeg a0)))] H := hP
      have hD : va_D A [(t0, .inl (dA 0, 4096, .inl (upd h0_f (v2 : Int32).toNatClampNeg a0)))] := hD
      obtain ⟨f4, ef4⟩ : ∃ f : Nat → Int32, f = (upd h0_f (v2 : Int32).toNatClampNeg a0) := ⟨_, rfl⟩
      rw [← ef4] at hP hD
      have hf4 : ∀ j : Nat, 0 ≤ (f4 j).toInt ∧ (f4 j).toInt ≤ 255 := by rw [ef4]; exact g_updB y1 (by omega) (by omega)
      obtain ⟨x5, e6⟩ : ∃ y : Int32, y = v2 + 1 := ⟨_, rfl⟩
      have g7 : x5.toInt = v2.toInt + 1 := g_add e6 rfl (by decide) (by omega) (by omega)
      refine lv_iinc (v := x5) (lv' := [(2, .int x5), (3, .int 4096), (0, .ref t0), (1, .int a0)]) hx hb dJ7_fill_53178_14 hl (k := 1) rfl (by rw [e6]; rfl) (by decide) rfl (fun ls hl => ?_)
      refine lv_goto (tgt := 5) hx hb dJ7_fill_53178_17 (by decide) ?_
      exact ih x5 f4 (by omega) hf4 (by omega) _ _ _ (hP.sub [0] rfl) (hD.sub [0] (by decide) rfl) hS (lv_sub hl [1, 0, 2, 3] rfl)
set_option maxHeartbeats 4000000 in
set_option maxRecDepth 100000 in
theorem s_fill_4096 (l : Launch) (D : va_G) (dA : Nat → ClassId) (t0 : Nat) (a0 : Int32) (m0 : Nat → Int32) (p0 : 0 ≤ a0.toInt ∧ a0.toInt ≤ 255) (p1 : ∀ j : Nat, 0 ≤ (m0 j).toInt ∧ (m0 j).toInt ≤ 255) (sz : Nat) : Met l yJ7_fill_53178 (gws yJ7_fill_53178 cJ7_fill_53178 4 none) (gR 1 0 0) (gPre D dA [.ref t0, .int a0] [(t0, .inl (dA 0, 4096, .inl m0))] sz) (va_Qv (fun u : (Nat → Int32) => (∀ j : Nat, 0 ≤ (u j).toInt ∧ (u j).toInt ≤ 255)) (gAt D dA (va_A [(t0, .inl (dA 0, 4096, .inl m0))] sz) (fun u : (Nat → Int32) => [(t0, .inl (dA 0, 4096, .inl u))])) (va_A [(t0, .inl (dA 0, 4096, .inl m0))] sz)) 0 0 (va_A [(t0, .inl (dA 0, 4096, .inl m0))] sz) := by
  refine Met.ofW (cc := cJ7_fill_53178) (maxL := 4) (ret := none) (by decide) rfl ?_
  intro p e s m args below meth c s₁ B hml hv
  obtain ⟨rfl, hsz, hP, hK, hD0⟩ := hv
  have hx := B.exec
  have hb := B.bytes
  have hr := B.returns
  have hts := atoms_spec (ws := gws yJ7_fill_53178 cJ7_fill_53178 4 none) B.pre
  have hg : ∀ w ∈ gw, w.before _ s = true := fun w h => hts w (List.mem_cons_of_mem _ h)
  have hown : s.vm.findClass RJ7 = some m.cls := findClass_of_methodNamed B.named
  have hlocks := B.notSynchronized
  subst hsz
  have hD := hD0.self (sz := s.heap.size)
  generalize hAe : va_A [(t0, .inl (dA 0, 4096, .inl m0))] s.heap.size = A at hD ⊢
  have hA : ∀ q : Nat, s.heap.size ≤ q → A q := fun q h => by rw [← hAe]; exact Or.inr h
  have hS : va_S A s.heap s.heap [] := va_S.rf
  have hP : va_P D vwC [(t0, .inl (dA 0, 4096, .inl m0))] s.heap := hP
  have hl := lv_entry ([.ref t0, .int a0]) (n := 4) (Nat.le_of_ble_eq_true rfl)
  rw [lg_entry_eq]
  generalize (lg_sl ([.ref t0, .int a0]) ++ List.replicate (4 - (lg_sl ([.ref t0, .int a0])).length) Slot.unset).toArray = ls at hl ⊢
  have hl : lv_has ls 4 [(0, .ref t0), (1, .int a0)] := hl
  refine lv_iconst (v := 0) hx hb dJ7_fill_53178_0 (by decide) ?_
  refine lv_istore_n (lv' := [(2, .int 0), (0, .ref t0), (1, .int a0)]) hx hb dJ7_fill_53178_1 rfl hl (by decide) rfl (fun ls hl => ?_)
  refine lv_aload_n hx hb dJ7_fill_53178_2 rfl (lv_at hl 1 rfl) ?_
  refine va_alen (v := 4096) hx hb hK hP 0 0 rfl rfl (show Int32.ofNat 4096 = 4096 from by decide) dJ7_fill_53178_3 ?_
  refine lv_istore_n (lv' := [(3, .int 4096), (2, .int 0), (0, .ref t0), (1, .int a0)]) hx hb dJ7_fill_53178_4 rfl hl (by decide) rfl (fun ls hl => ?_)
  exact s_fill_4096_L5 hx hb hr hml hown hg hlocks hA hK (by have q_0 : (4096 : Int32).toInt = 4096 := (by decide); have q_1 : (0 : Int32).toInt = 0 := (by decide); omega) _ 0 m0 (by have q_0 : (4096 : Int32).toInt = 4096 := (by decide); have q_1 : (0 : Int32).toInt = 0 := (by decide); omega) p1 (Nat.lt_succ_self _) _ _ _ (hP.sub [0] rfl) (hD.sub [0] (by decide) rfl) hS (lv_sub hl [0, 1, 2, 3] rfl)
set_option maxHeartbeats 4000000 in
set_option maxRecDepth 100000 in
theorem s_fill_8_L5 {p : Program} {e : Env} {s : State} {m : MethodId} {args : Array Value} {below : List Frame} {meth : Method} {c : Code} {l : Launch} {D : va_G} {dA : Nat → ClassId} {A : Nat → Prop} (hx : p.tables.exec = Jvm.exec) (hb : c.code = cJ7_fill_53178) (hr : meth.sig.returnType = none) (hml : c.maxLocals = 4) (hown : s.vm.findClass RJ7 = some m.cls) (hg : ∀ w ∈ gw, w.before args s = true) (hlocks : meth.locks = false) (hA : ∀ q : Nat, s.heap.size ≤ q → A q) (hK : gK D dA s) {t0 : Nat} {a0 : Int32} : ∀ (n : Nat) (v2 : Int32) (h0_f : Nat → Int32) , (0 ≤ v2.toInt ∧ v2.toInt ≤ 8) → (8 - v2.toInt).toNat < n → ∀ (H : Heap) (locs : List Loc) (ls : Array Slot), va_P D vwC [(t0, .inl (dA 0, 8, .inl h0_f))] H → va_D A [(t0, .inl (dA 0, 8, .inl h0_f))] → va_S A s.heap H locs → lv_has ls 4 [(3, .int 8), (2, .int v2), (0, .ref t0), (1, .int a0)] → W p l e (gR 1 0 0) s m args below meth c H locs 0 0 (MQ below (va_Qv (fun u : (Nat → Int32) => True) (gAt D dA A (fun u : (Nat → Int32) => [(t0, .inl (dA 0, 8, .inl u))])) A) args s 0 0 A) (F0 m 5 ls []) := by
  intro n
  induction n with
  | zero =>
    intro v2 h0_f y0 hn
    exact absurd hn (Nat.not_lt_zero _)
  | succ n ih =>
    intro v2 h0_f y0 hn H locs ls hP hD hS hl
    refine lv_iload_n hx hb dJ7_fill_53178_5 rfl (lv_at hl 1 rfl) ?_
    refine lv_iload_n hx hb dJ7_fill_53178_6 rfl (lv_at hl 0 rfl) ?_
    refine lv_icmp_ge (tgt := 20) hx hb dJ7_fill_53178_7 (by decide) (fun k1 => ?_) (fun k1 => ?_)
    · have g2 : 8 ≤ v2.toInt := gi_le (by decide : (8 : Int32).toInt = 8) (rfl : v2.toInt = v2.toInt) k1
      exact g_vret hx hb hr hlocks hK h0_f hP hD hS trivial (Nat.le_of_ble_eq_true rfl) (Nat.le_of_ble_eq_true rfl) dJ7_fill_53178_20
    · have g3 : 8 > v2.toInt := gi_nle (by decide : (8 : Int32).toInt = 8) (rfl : v2.toInt = v2.toInt) k1
      refine lv_aload_n hx hb dJ7_fill_53178_10 rfl (lv_at hl 2 rfl) ?_
      refine lv_iload_n hx hb dJ7_fill_53178_11 rfl (lv_at hl 1 rfl) ?_
      refine lv_iload_n hx hb dJ7_fill_53178_12 rfl (lv_at hl 3 rfl) ?_
      refine va_iast hx hb hK hP hD hS 0 0 rfl rfl (by rw [vp_in_iff]; omega) dJ7_fill_53178_13 (fun H locs hP hD hS => ?_)
      have hP : va_P D vwC [(t0, .inl (dA 0, 8, .inl (upd h0_f (v2 : Int32).toNatClampNeg a0)))] H := hP
      have hD : va_D A [(t0, .inl (dA 0, 8, .inl (upd h0_f (v2 : Int32).toNatClampNeg a0)))] := hD
      obtain ⟨f4, ef4⟩ : ∃ f : Nat → Int32, f = (upd h0_f (v2 : Int32).toNatClampNeg a0) := ⟨_, rfl⟩
      rw [← ef4] at hP hD
      obtain ⟨x5, e6⟩ : ∃ y : Int32, y = v2 + 1 := ⟨_, rfl⟩
      have g7 : x5.toInt = v2.toInt + 1 := g_add e6 rfl (by decide) (by omega) (by omega)
      refine lv_iinc (v := x5) (lv' := [(2, .int x5), (3, .int 8), (0, .ref t0), (1, .int a0)]) hx hb dJ7_fill_53178_14 hl (k := 1) rfl (by rw [e6]; rfl) (by decide) rfl (fun ls hl => ?_)
      refine lv_goto (tgt := 5) hx hb dJ7_fill_53178_17 (by decide) ?_
      exact ih x5 f4 (by omega) (by omega) _ _ _ (hP.sub [0] rfl) (hD.sub [0] (by decide) rfl) hS (lv_sub hl [1, 0, 2, 3] rfl)
set_option maxHeartbeats 4000000 in
set_option maxRecDepth 100000 in
theorem s_fill_8 (l : Launch) (D : va_G) (dA : Nat → ClassId) (t0 : Nat) (a0 : Int32) (m0 : Nat → Int32) (sz : Nat) : Met l yJ7_fill_53178 (gws yJ7_fill_53178 cJ7_fill_53178 4 none) (gR 1 0 0) (gPre D dA [.ref t0, .int a0] [(t0, .inl (dA 0, 8, .inl m0))] sz) (va_Qv (fun u : (Nat → Int32) => True) (gAt D dA (va_A [(t0, .inl (dA 0, 8, .inl m0))] sz) (fun u : (Nat → Int32) => [(t0, .inl (dA 0, 8, .inl u))])) (va_A [(t0, .inl (dA 0, 8, .inl m0))] sz)) 0 0 (va_A [(t0, .inl (dA 0, 8, .inl m0))] sz) := by
  refine Met.ofW (cc := cJ7_fill_53178) (maxL := 4) (ret := none) (by decide) rfl ?_
  intro p e s m args below meth c s₁ B hml hv
  obtain ⟨rfl, hsz, hP, hK, hD0⟩ := hv
  have hx := B.exec
  have hb := B.bytes
  have hr := B.returns
  have hts := atoms_spec (ws := gws yJ7_fill_53178 cJ7_fill_53178 4 none) B.pre
  have hg : ∀ w ∈ gw, w.before _ s = true := fun w h => hts w (List.mem_cons_of_mem _ h)
  have hown : s.vm.findClass RJ7 = some m.cls := findClass_of_methodNamed B.named
  have hlocks := B.notSynchronized
  subst hsz
  have hD := hD0.self (sz := s.heap.size)
  generalize hAe : va_A [(t0, .inl (dA 0, 8, .inl m0))] s.heap.size = A at hD ⊢
  have hA : ∀ q : Nat, s.heap.size ≤ q → A q := fun q h => by rw [← hAe]; exact Or.inr h
  have hS : va_S A s.heap s.heap [] := va_S.rf
  have hP : va_P D vwC [(t0, .inl (dA 0, 8, .inl m0))] s.heap := hP
  have hl := lv_entry ([.ref t0, .int a0]) (n := 4) (Nat.le_of_ble_eq_true rfl)
  rw [lg_entry_eq]
  generalize (lg_sl ([.ref t0, .int a0]) ++ List.replicate (4 - (lg_sl ([.ref t0, .int a0])).length) Slot.unset).toArray = ls at hl ⊢
  have hl : lv_has ls 4 [(0, .ref t0), (1, .int a0)] := hl
  refine lv_iconst (v := 0) hx hb dJ7_fill_53178_0 (by decide) ?_
  refine lv_istore_n (lv' := [(2, .int 0), (0, .ref t0), (1, .int a0)]) hx hb dJ7_fill_53178_1 rfl hl (by decide) rfl (fun ls hl => ?_)
  refine lv_aload_n hx hb dJ7_fill_53178_2 rfl (lv_at hl 1 rfl) ?_
  refine va_alen (v := 8) hx hb hK hP 0 0 rfl rfl (show Int32.ofNat 8 = 8 from by decide) dJ7_fill_53178_3 ?_
  refine lv_istore_n (lv' := [(3, .int 8), (2, .int 0), (0, .ref t0), (1, .int a0)]) hx hb dJ7_fill_53178_4 rfl hl (by decide) rfl (fun ls hl => ?_)
  exact s_fill_8_L5 hx hb hr hml hown hg hlocks hA hK  _ 0 m0 (by have q_0 : (8 : Int32).toInt = 8 := (by decide); have q_1 : (0 : Int32).toInt = 0 := (by decide); omega) (Nat.lt_succ_self _) _ _ _ (hP.sub [0] rfl) (hD.sub [0] (by decide) rfl) hS (lv_sub hl [0, 1, 2, 3] rfl)
set_option maxHeartbeats 4000000 in
set_option maxRecDepth 100000 in
theorem s_fill_4_L5 {p : Program} {e : Env} {s : State} {m : MethodId} {args : Array Value} {below : List Frame} {meth : Method} {c : Code} {l : Launch} {D : va_G} {dA : Nat → ClassId} {A : Nat → Prop} (hx : p.tables.exec = Jvm.exec) (hb : c.code = cJ7_fill_53178) (hr : meth.sig.returnType = none) (hml : c.maxLocals = 4) (hown : s.vm.findClass RJ7 = some m.cls) (hg : ∀ w ∈ gw, w.before args s = true) (hlocks : meth.locks = false) (hA : ∀ q : Nat, s.heap.size ≤ q → A q) (hK : gK D dA s) {t0 : Nat} {a0 : Int32} : ∀ (n : Nat) (v2 : Int32) (h0_f : Nat → Int32) , (0 ≤ v2.toInt ∧ v2.toInt ≤ 4) → (4 - v2.toInt).toNat < n → ∀ (H : Heap) (locs : List Loc) (ls : Array Slot), va_P D vwC [(t0, .inl (dA 0, 4, .inl h0_f))] H → va_D A [(t0, .inl (dA 0, 4, .inl h0_f))] → va_S A s.heap H locs → lv_has ls 4 [(3, .int 4), (2, .int v2), (0, .ref t0), (1, .int a0)] → W p l e (gR 1 0 0) s m args below meth c H locs 0 0 (MQ below (va_Qv (fun u : (Nat → Int32) => True) (gAt D dA A (fun u : (Nat → Int32) => [(t0, .inl (dA 0, 4, .inl u))])) A) args s 0 0 A) (F0 m 5 ls []) := by
  intro n
  induction n with
  | zero =>
    intro v2 h0_f y0 hn
    exact absurd hn (Nat.not_lt_zero _)
  | succ n ih =>
    intro v2 h0_f y0 hn H locs ls hP hD hS hl
    refine lv_iload_n hx hb dJ7_fill_53178_5 rfl (lv_at hl 1 rfl) ?_
    refine lv_iload_n hx hb dJ7_fill_53178_6 rfl (lv_at hl 0 rfl) ?_
    refine lv_icmp_ge (tgt := 20) hx hb dJ7_fill_53178_7 (by decide) (fun k1 => ?_) (fun k1 => ?_)
    · have g2 : 4 ≤ v2.toInt := gi_le (by decide : (4 : Int32).toInt = 4) (rfl : v2.toInt = v2.toInt) k1
      exact g_vret hx hb hr hlocks hK h0_f hP hD hS trivial (Nat.le_of_ble_eq_true rfl) (Nat.le_of_ble_eq_true rfl) dJ7_fill_53178_20
    · have g3 : 4 > v2.toInt := gi_nle (by decide : (4 : Int32).toInt = 4) (rfl : v2.toInt = v2.toInt) k1
      refine lv_aload_n hx hb dJ7_fill_53178_10 rfl (lv_at hl 2 rfl) ?_
      refine lv_iload_n hx hb dJ7_fill_53178_11 rfl (lv_at hl 1 rfl) ?_
      refine lv_iload_n hx hb dJ7_fill_53178_12 rfl (lv_at hl 3 rfl) ?_
      refine va_iast hx hb hK hP hD hS 0 0 rfl rfl (by rw [vp_in_iff]; omega) dJ7_fill_53178_13 (fun H locs hP hD hS => ?_)
      have hP : va_P D vwC [(t0, .inl (dA 0, 4, .inl (upd h0_f (v2 : Int32).toNatClampNeg a0)))] H := hP
      have hD : va_D A [(t0, .inl (dA 0, 4, .inl (upd h0_f (v2 : Int32).toNatClampNeg a0)))] := hD
      obtain ⟨f4, ef4⟩ : ∃ f : Nat → Int32, f = (upd h0_f (v2 : Int32).toNatClampNeg a0) := ⟨_, rfl⟩
      rw [← ef4] at hP hD
      obtain ⟨x5, e6⟩ : ∃ y : Int32, y = v2 + 1 := ⟨_, rfl⟩
      have g7 : x5.toInt = v2.toInt + 1 := g_add e6 rfl (by decide) (by omega) (by omega)
      refine lv_iinc (v := x5) (lv' := [(2, .int x5), (3, .int 4), (0, .ref t0), (1, .int a0)]) hx hb dJ7_fill_53178_14 hl (k := 1) rfl (by rw [e6]; rfl) (by decide) rfl (fun ls hl => ?_)
      refine lv_goto (tgt := 5) hx hb dJ7_fill_53178_17 (by decide) ?_
      exact ih x5 f4 (by omega) (by omega) _ _ _ (hP.sub [0] rfl) (hD.sub [0] (by decide) rfl) hS (lv_sub hl [1, 0, 2, 3] rfl)
set_option maxHeartbeats 4000000 in
set_option maxRecDepth 100000 in
theorem s_fill_4 (l : Launch) (D : va_G) (dA : Nat → ClassId) (t0 : Nat) (a0 : Int32) (m0 : Nat → Int32) (sz : Nat) : Met l yJ7_fill_53178 (gws yJ7_fill_53178 cJ7_fill_53178 4 none) (gR 1 0 0) (gPre D dA [.ref t0, .int a0] [(t0, .inl (dA 0, 4, .inl m0))] sz) (va_Qv (fun u : (Nat → Int32) => True) (gAt D dA (va_A [(t0, .inl (dA 0, 4, .inl m0))] sz) (fun u : (Nat → Int32) => [(t0, .inl (dA 0, 4, .inl u))])) (va_A [(t0, .inl (dA 0, 4, .inl m0))] sz)) 0 0 (va_A [(t0, .inl (dA 0, 4, .inl m0))] sz) := by
  refine Met.ofW (cc := cJ7_fill_53178) (maxL := 4) (ret := none) (by decide) rfl ?_
  intro p e s m args below meth c s₁ B hml hv
  obtain ⟨rfl, hsz, hP, hK, hD0⟩ := hv
  have hx := B.exec
  have hb := B.bytes
  have hr := B.returns
  have hts := atoms_spec (ws := gws yJ7_fill_53178 cJ7_fill_53178 4 none) B.pre
  have hg : ∀ w ∈ gw, w.before _ s = true := fun w h => hts w (List.mem_cons_of_mem _ h)
  have hown : s.vm.findClass RJ7 = some m.cls := findClass_of_methodNamed B.named
  have hlocks := B.notSynchronized
  subst hsz
  have hD := hD0.self (sz := s.heap.size)
  generalize hAe : va_A [(t0, .inl (dA 0, 4, .inl m0))] s.heap.size = A at hD ⊢
  have hA : ∀ q : Nat, s.heap.size ≤ q → A q := fun q h => by rw [← hAe]; exact Or.inr h
  have hS : va_S A s.heap s.heap [] := va_S.rf
  have hP : va_P D vwC [(t0, .inl (dA 0, 4, .inl m0))] s.heap := hP
  have hl := lv_entry ([.ref t0, .int a0]) (n := 4) (Nat.le_of_ble_eq_true rfl)
  rw [lg_entry_eq]
  generalize (lg_sl ([.ref t0, .int a0]) ++ List.replicate (4 - (lg_sl ([.ref t0, .int a0])).length) Slot.unset).toArray = ls at hl ⊢
  have hl : lv_has ls 4 [(0, .ref t0), (1, .int a0)] := hl
  refine lv_iconst (v := 0) hx hb dJ7_fill_53178_0 (by decide) ?_
  refine lv_istore_n (lv' := [(2, .int 0), (0, .ref t0), (1, .int a0)]) hx hb dJ7_fill_53178_1 rfl hl (by decide) rfl (fun ls hl => ?_)
  refine lv_aload_n hx hb dJ7_fill_53178_2 rfl (lv_at hl 1 rfl) ?_
  refine va_alen (v := 4) hx hb hK hP 0 0 rfl rfl (show Int32.ofNat 4 = 4 from by decide) dJ7_fill_53178_3 ?_
  refine lv_istore_n (lv' := [(3, .int 4), (2, .int 0), (0, .ref t0), (1, .int a0)]) hx hb dJ7_fill_53178_4 rfl hl (by decide) rfl (fun ls hl => ?_)
  exact s_fill_4_L5 hx hb hr hml hown hg hlocks hA hK  _ 0 m0 (by have q_0 : (4 : Int32).toInt = 4 := (by decide); have q_1 : (0 : Int32).toInt = 0 := (by decide); omega) (Nat.lt_succ_self _) _ _ _ (hP.sub [0] rfl) (hD.sub [0] (by decide) rfl) hS (lv_sub hl [0, 1, 2, 3] rfl)
set_option maxHeartbeats 4000000 in
set_option maxRecDepth 100000 in
theorem s_fill_60_L5 {p : Program} {e : Env} {s : State} {m : MethodId} {args : Array Value} {below : List Frame} {meth : Method} {c : Code} {l : Launch} {D : va_G} {dA : Nat → ClassId} {A : Nat → Prop} (hx : p.tables.exec = Jvm.exec) (hb : c.code = cJ7_fill_53178) (hr : meth.sig.returnType = none) (hml : c.maxLocals = 4) (hown : s.vm.findClass RJ7 = some m.cls) (hg : ∀ w ∈ gw, w.before args s = true) (hlocks : meth.locks = false) (hA : ∀ q : Nat, s.heap.size ≤ q → A q) (hK : gK D dA s) {t0 : Nat} {a0 : Int32} : ∀ (n : Nat) (v2 : Int32) (h0_f : Nat → Int32) , (0 ≤ v2.toInt ∧ v2.toInt ≤ 60) → (60 - v2.toInt).toNat < n → ∀ (H : Heap) (locs : List Loc) (ls : Array Slot), va_P D vwC [(t0, .inl (dA 0, 60, .inl h0_f))] H → va_D A [(t0, .inl (dA 0, 60, .inl h0_f))] → va_S A s.heap H locs → lv_has ls 4 [(3, .int 60), (2, .int v2), (0, .ref t0), (1, .int a0)] → W p l e (gR 1 0 0) s m args below meth c H locs 0 0 (MQ below (va_Qv (fun u : (Nat → Int32) => True) (gAt D dA A (fun u : (Nat → Int32) => [(t0, .inl (dA 0, 60, .inl u))])) A) args s 0 0 A) (F0 m 5 ls []) := by
  intro n
  induction n with
  | zero =>
    intro v2 h0_f y0 hn
    exact absurd hn (Nat.not_lt_zero _)
  | succ n ih =>
    intro v2 h0_f y0 hn H locs ls hP hD hS hl
    refine lv_iload_n hx hb dJ7_fill_53178_5 rfl (lv_at hl 1 rfl) ?_
    refine lv_iload_n hx hb dJ7_fill_53178_6 rfl (lv_at hl 0 rfl) ?_
    refine lv_icmp_ge (tgt := 20) hx hb dJ7_fill_53178_7 (by decide) (fun k1 => ?_) (fun k1 => ?_)
    · have g2 : 60 ≤ v2.toInt := gi_le (by decide : (60 : Int32).toInt = 60) (rfl : v2.toInt = v2.toInt) k1
      exact g_vret hx hb hr hlocks hK h0_f hP hD hS trivial (Nat.le_of_ble_eq_true rfl) (Nat.le_of_ble_eq_true rfl) dJ7_fill_53178_20
    · have g3 : 60 > v2.toInt := gi_nle (by decide : (60 : Int32).toInt = 60) (rfl : v2.toInt = v2.toInt) k1
      refine lv_aload_n hx hb dJ7_fill_53178_10 rfl (lv_at hl 2 rfl) ?_
      refine lv_iload_n hx hb dJ7_fill_53178_11 rfl (lv_at hl 1 rfl) ?_
      refine lv_iload_n hx hb dJ7_fill_53178_12 rfl (lv_at hl 3 rfl) ?_
      refine va_iast hx hb hK hP hD hS 0 0 rfl rfl (by rw [vp_in_iff]; omega) dJ7_fill_53178_13 (fun H locs hP hD hS => ?_)
      have hP : va_P D vwC [(t0, .inl (dA 0, 60, .inl (upd h0_f (v2 : Int32).toNatClampNeg a0)))] H := hP
      have hD : va_D A [(t0, .inl (dA 0, 60, .inl (upd h0_f (v2 : Int32).toNatClampNeg a0)))] := hD
      obtain ⟨f4, ef4⟩ : ∃ f : Nat → Int32, f = (upd h0_f (v2 : Int32).toNatClampNeg a0) := ⟨_, rfl⟩
      rw [← ef4] at hP hD
      obtain ⟨x5, e6⟩ : ∃ y : Int32, y = v2 + 1 := ⟨_, rfl⟩
      have g7 : x5.toInt = v2.toInt + 1 := g_add e6 rfl (by decide) (by omega) (by omega)
      refine lv_iinc (v := x5) (lv' := [(2, .int x5), (3, .int 60), (0, .ref t0), (1, .int a0)]) hx hb dJ7_fill_53178_14 hl (k := 1) rfl (by rw [e6]; rfl) (by decide) rfl (fun ls hl => ?_)
      refine lv_goto (tgt := 5) hx hb dJ7_fill_53178_17 (by decide) ?_
      exact ih x5 f4 (by omega) (by omega) _ _ _ (hP.sub [0] rfl) (hD.sub [0] (by decide) rfl) hS (lv_sub hl [1, 0, 2, 3] rfl)
set_option maxHeartbeats 4000000 in
set_option maxRecDepth 100000 in
theorem s_fill_60 (l : Launch) (D : va_G) (dA : Nat → ClassId) (t0 : Nat) (a0 : Int32) (m0 : Nat → Int32) (sz : Nat) : Met l yJ7_fill_53178 (gws yJ7_fill_53178 cJ7_fill_53178 4 none) (gR 1 0 0) (gPre D dA [.ref t0, .int a0] [(t0, .inl (dA 0, 60, .inl m0))] sz) (va_Qv (fun u : (Nat → Int32) => True) (gAt D dA (va_A [(t0, .inl (dA 0, 60, .inl m0))] sz) (fun u : (Nat → Int32) => [(t0, .inl (dA 0, 60, .inl u))])) (va_A [(t0, .inl (dA 0, 60, .inl m0))] sz)) 0 0 (va_A [(t0, .inl (dA 0, 60, .inl m0))] sz) := by
  refine Met.ofW (cc := cJ7_fill_53178) (maxL := 4) (ret := none) (by decide) rfl ?_
  intro p e s m args below meth c s₁ B hml hv
  obtain ⟨rfl, hsz, hP, hK, hD0⟩ := hv
  have hx := B.exec
  have hb := B.bytes
  have hr := B.returns
  have hts := atoms_spec (ws := gws yJ7_fill_53178 cJ7_fill_53178 4 none) B.pre
  have hg : ∀ w ∈ gw, w.before _ s = true := fun w h => hts w (List.mem_cons_of_mem _ h)
  have hown : s.vm.findClass RJ7 = some m.cls := findClass_of_methodNamed B.named
  have hlocks := B.notSynchronized
  subst hsz
  have hD := hD0.self (sz := s.heap.size)
  generalize hAe : va_A [(t0, .inl (dA 0, 60, .inl m0))] s.heap.size = A at hD ⊢
  have hA : ∀ q : Nat, s.heap.size ≤ q → A q := fun q h => by rw [← hAe]; exact Or.inr h
  have hS : va_S A s.heap s.heap [] := va_S.rf
  have hP : va_P D vwC [(t0, .inl (dA 0, 60, .inl m0))] s.heap := hP
  have hl := lv_entry ([.ref t0, .int a0]) (n := 4) (Nat.le_of_ble_eq_true rfl)
  rw [lg_entry_eq]
  generalize (lg_sl ([.ref t0, .int a0]) ++ List.replicate (4 - (lg_sl ([.ref t0, .int a0])).length) Slot.unset).toArray = ls at hl ⊢
  have hl : lv_has ls 4 [(0, .ref t0), (1, .int a0)] := hl
  refine lv_iconst (v := 0) hx hb dJ7_fill_53178_0 (by decide) ?_
  refine lv_istore_n (lv' := [(2, .int 0), (0, .ref t0), (1, .int a0)]) hx hb dJ7_fill_53178_1 rfl hl (by decide) rfl (fun ls hl => ?_)
  refine lv_aload_n hx hb dJ7_fill_53178_2 rfl (lv_at hl 1 rfl) ?_
  refine va_alen (v := 60) hx hb hK hP 0 0 rfl rfl (show Int32.ofNat 60 = 60 from by decide) dJ7_fill_53178_3 ?_
  refine lv_istore_n (lv' := [(3, .int 60), (2, .int 0), (0, .ref t0), (1, .int a0)]) hx hb dJ7_fill_53178_4 rfl hl (by decide) rfl (fun ls hl => ?_)
  exact s_fill_60_L5 hx hb hr hml hown hg hlocks hA hK  _ 0 m0 (by have q_0 : (60 : Int32).toInt = 60 := (by decide); have q_1 : (0 : Int32).toInt = 0 := (by decide); omega) (Nat.lt_succ_self _) _ _ _ (hP.sub [0] rfl) (hD.sub [0] (by decide) rfl) hS (lv_sub hl [0, 1, 2, 3] rfl)
