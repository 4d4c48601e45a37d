abbrev xRE : List String := ["java/lang/RuntimeException", "java/lang/Exception"]
abbrev xIAE : String := "java/lang/IllegalArgumentException"
abbrev xIOB : String := "java/lang/IndexOutOfBoundsException"
abbrev xISE : String := "java/lang/IllegalStateException"
def gStrs : List (Nat × String) := [(92, "n is not 1 .. 8"), (101, "a byte is not 32 .. 126"), (105, "the text is full"), (112, "module is not 0 .. 2"), (169, "no module is there"), (200, "paragraph is not 0 .. 255"), (203, "there is no image"), (211, "fuel is not 1 .. 400"), (216, "the machine has halted"), (222, "there is no such module"), (227, "there is no such segment"), (233, "there is no such byte"), (241, "what is not 0 .. 3"), (246, "there is no such fixup"), (264, "address is not 0 .. 4095"), (269, "register is not 0 .. 15"), (289, "there is no such int"), (294, "what is not 0 .. 13")]
def gNcs : List (String × String) := [(xIOB, xIAE), (xISE, xIAE)]
def gStr (U : State) : Prop := ∀ q ∈ gStrs, ∃ sa, vk_R RX10 q.1 q.2 sa U
def gNc (U : State) : Prop := ∀ q ∈ gNcs, va_Nc q.1 q.2 U
def gZ (A : Nat → Prop) (U : State) : Prop := vx_Zq Bundle.tN "UNASSIGNED_STACK" Bundle.steD A U U.heap ∧ vx_Zq Bundle.tN "SUPPRESSED_SENTINEL" Bundle.listD A U U.heap ∧ gStr U
theorem gZ_moved {A B : Nat → Prop} {s U : State} {H : Heap} {locs : List Loc} (hW : s.WarmedH U.vm) (hU : U.heap = H) (hS : va_S A s.heap H locs) (hAB : ∀ q, B q → A q) (h : gZ A s) : gZ B U := by
  subst hU
  exact ⟨((h.1.moved hW.alike).kept (fun a h1 h2 => hS.2.1 a h1 h2)).narrow hAB, ((h.2.1.moved hW.alike).kept (fun a h1 h2 => hS.2.1 a h1 h2)).narrow hAB, fun q hq => by
    obtain ⟨sa, hsa⟩ := h.2.2 q hq
    exact ⟨sa, hsa.warm hW⟩⟩
theorem gZ_call {A : Nat → Prop} {U : State} {g : JFrame} {mk : MethodId} {a : Array Value} (h : gZ A U) : gZ A (U.calling g mk a) :=
  ⟨vx_Zq.moved (u := U) (U := U.calling g mk a) (Vm.Alike.refl U.vm) h.1, vx_Zq.moved (u := U) (U := U.calling g mk a) (Vm.Alike.refl U.vm) h.2.1, fun q hq => by
    obtain ⟨sa, hsa⟩ := h.2.2 q hq
    exact ⟨sa, vk_R.same (u := U) (U := U.calling g mk a) rfl hsa⟩⟩
theorem gNc_moved {s U : State} (hW : s.vm.Alike U.vm) (h : gNc s) : gNc U := fun q hq => (h q hq).moved hW
abbrev gPreX (D : va_G) (dA : Nat → ClassId) (av : List Value) (w0 : va_W) (sz : Nat) : Array Value → State → Prop := va_Pc av (fun U => U.heap.size = sz ∧ va_P D vwC w0 U.heap ∧ gK D dA U ∧ va_D (fun _ => True) w0 ∧ gZ (va_A w0 sz) U)
abbrev gPreW (D : va_G) (dA : Nat → ClassId) (av : List Value) (w0 : va_W) (sz : Nat) : Array Value → State → Prop := va_Pc av (fun U => U.heap.size = sz ∧ va_P D vwC w0 U.heap ∧ gK D dA U ∧ va_D (fun _ => True) w0 ∧ gZ (va_A w0 sz) U ∧ gNc U)
theorem g_blindX {D : va_G} {dA : Nat → ClassId} {av : List Value} {w0 : va_W} {sz : Nat} : FrameBlind (gPreX D dA av w0 sz) := fun a U g mk q => by
  obtain ⟨q0, q1, qP, qK, qD, qZ⟩ := q
  exact ⟨q0, q1, qP, va_K.moved (u := U) (U := U.calling g mk a) (Vm.Alike.refl U.vm) qK, qD, gZ_call qZ⟩
theorem g_blindW {D : va_G} {dA : Nat → ClassId} {av : List Value} {w0 : va_W} {sz : Nat} : FrameBlind (gPreW D dA av w0 sz) := fun a U g mk q => by
  obtain ⟨q0, q1, qP, qK, qD, qZ, qN⟩ := q
  exact ⟨q0, q1, qP, va_K.moved (u := U) (U := U.calling g mk a) (Vm.Alike.refl U.vm) qK, qD, gZ_call qZ, gNc_moved (Vm.Alike.refl U.vm) qN⟩
abbrev gX (PX : String → Prop) (A : Nat → Prop) : String → State → State → Prop := vx_X (fun _ : Unit => True) (fun E _ _ => PX E) A
abbrev gwsW (y : MethodName) (b : ByteArray) (n : Nat) (r : Option FieldType) (hh : List (Nat × Nat × Nat × Nat)) : List Cond := .codeWith y b n r hh :: gw
section GX
variable {p : Program} {l : Launch} {e : Env} {R : Room} {s : State} {m : MethodId} {args : Array Value} {below : List Frame} {meth : Method} {c : Code} {H : Heap} {locs : List Loc} {cells slots : Nat} {Q : State → Prop}
variable {cc : ByteArray} {pc : Nat} {ls : Array Slot} {rest st0 : List Value} {D : va_G} {dA : Nat → ClassId} {A : Nat → Prop} {a : Nat} {ws : va_W} {H0 : Heap}
theorem g_thr {Qc : Array Value → State → Outcome → State → Prop} {PX : String → Prop} {mc ms nL ik is ic : Nat} {cls text : String} (hx : p.tables.exec = Jvm.exec) (hb : c.code = cc) (hg : ∀ w ∈ gw, w.before args s = true) (hl : l.stackTraces = false) (hown : s.vm.findClass RX10 = some m.cls) (hcls : Bundle.fit cls = true) (hk : Cond.classLink RX10 ik cls ∈ gw) (hini : Cond.initialized cls ∈ gw) (hst : (is, text) ∈ gStrs) (hat : ∀ w ∈ vx_atS RX10 ic cls xRE, w ∈ gw) (hgood : ∀ w ∈ Cond.classLink RX10 ik cls :: Cond.initialized cls :: vx_atS RX10 ic cls xRE, vx_ot w = true)
    (hZ : gZ A s) (hS : va_S A s.heap H locs) (hml : c.maxLocals = nL) (hsz : ls.size = nL) (hnt : ∀ x ∈ c.exceptionTable.toList, False) (hlocks : meth.locks = false) (d0 : decode cc pc = .ok (.new ik, 3)) (d3 : decode cc (pc + 3) = .ok (.dup, 1)) (d4 : decode cc (pc + 4) = .ok (.ldc is, 2)) (d6 : decode cc (pc + 6) = .ok (.invokespecial ic, 3)) (d9 : decode cc (pc + 9) = .ok (.athrow, 1))
    (hRf : 5 < R.frames) (hRl : (rest.map fun v => v.category).sum + 82 ≤ R.locals) (hRc : cells + 1 ≤ R.cells) (hRs : slots + 6 ≤ R.slots) (hc : cells + 1 ≤ mc) (hs : slots + 6 ≤ ms) (hpx : PX cls) : W p l e R s m args below meth c H locs cells slots (vx_MQ below Qc (gX PX A) args s mc ms A) (F0 m pc ls rest) := by
  obtain ⟨sa, hsa⟩ := hZ.2.2 _ hst
  exact vx_throwS hx hb hl hown hcls (by decide) (hg _ hk) (hg _ hini) hsa (fun w h => hg w (hat w h)) hgood hZ.1 hZ.2.1 hS (hsz.trans hml.symm) d0 d3 d4 d6 d9 (fun x h => (hnt x h).elim) hRf hRl hRc hRs hlocks (fun t hv hz hk => ⟨(), trivial, hpx, Nat.le_trans hS.1 hz, fun q h1 h2 => by rw [hk q (Nat.lt_of_lt_of_le h1 hS.1)]; exact hS.2.1 q h1 h2⟩) hS.2.2 hc hs
theorem g_thrW {Qc : Array Value → State → Outcome → State → Prop} {PX : String → Prop} {mc ms nL ik is ic : Nat} {cls text : String} (hx : p.tables.exec = Jvm.exec) (hb : c.code = cc) (hg : ∀ w ∈ gw, w.before args s = true) (hl : l.stackTraces = false) (hown : s.vm.findClass RX10 = some m.cls) (hcls : Bundle.fit cls = true) (hk : Cond.classLink RX10 ik cls ∈ gw) (hini : Cond.initialized cls ∈ gw) (hst : (is, text) ∈ gStrs) (hat : ∀ w ∈ vx_atS RX10 ic cls xRE, w ∈ gw) (hgood : ∀ w ∈ Cond.classLink RX10 ik cls :: Cond.initialized cls :: vx_atS RX10 ic cls xRE, vx_ot w = true)
    (hZ : gZ A s) (hS : va_S A s.heap H locs) (hml : c.maxLocals = nL) (hsz : ls.size = nL) (hnt : ∀ x ∈ c.exceptionTable.toList, False) (hlocks : meth.locks = false) (d0 : decode cc pc = .ok (.new ik, 3)) (d3 : decode cc (pc + 3) = .ok (.dup, 1)) (d4 : decode cc (pc + 4) = .ok (.ldc_w is, 3)) (d7 : decode cc (pc + 7) = .ok (.invokespecial ic, 3)) (d10 : decode cc (pc + 10) = .ok (.athrow, 1))
    (hRf : 5 < R.frames) (hRl : (rest.map fun v => v.category).sum + 82 ≤ R.locals) (hRc : cells + 1 ≤ R.cells) (hRs : slots + 6 ≤ R.slots) (hc : cells + 1 ≤ mc) (hs : slots + 6 ≤ ms) (hpx : PX cls) : W p l e R s m args below meth c H locs cells slots (vx_MQ below Qc (gX PX A) args s mc ms A) (F0 m pc ls rest) := by
  obtain ⟨sa, hsa⟩ := hZ.2.2 _ hst
  exact vx_throwSW hx hb hl hown hcls (by decide) (hg _ hk) (hg _ hini) hsa (fun w h => hg w (hat w h)) hgood hZ.1 hZ.2.1 hS (hsz.trans hml.symm) d0 d3 d4 d7 d10 (fun x h => (hnt x h).elim) hRf hRl hRc hRs hlocks (fun t hv hz hk => ⟨(), trivial, hpx, Nat.le_trans hS.1 hz, fun q h1 h2 => by rw [hk q (Nat.lt_of_lt_of_le h1 hS.1)]; exact hS.2.1 q h1 h2⟩) hS.2.2 hc hs
theorem g_keep {wc wr : va_W} {H1 : Heap} {isC isR : List Nat} (hP : va_P D vwC ws H) (hD : va_D A ws) (hC : isC.map (fun i => ws[i]?) = wc.map some) (hR : isR.map (fun i => ws[i]?) = wr.map some) (hn : va_nd isR = true) (hdis : ∀ i ∈ isR, i ∉ isC) (hk : ∀ q : Nat, q < H.size → ¬ va_A wc H.size q → H1[q]? = H[q]?) (hF : ∀ q, va_A wc H.size q → A q) : va_P D vwC wr H1 ∧ va_D A wr := by
  have h := va_join (w1 := []) hP hD isC isR hC hR hn hdis hk hF (fun k q h => by simp at h) ⟨fun i j p q h => by simp at h, fun k q h => by simp at h⟩
  simpa using h
/-- a call that may throw -/
theorem g_Vx {own : String} {T : u_T} {N ci index maxL nL lv mc ms n b : Nat} {y : MethodName} {bytes : ByteArray} {rt : FieldType} {As : List Value} {wc wr : va_W} {post : Int32 → Unit → Prop} {PX : String → Prop} {fs : List Value} (hx : p.tables.exec = Jvm.exec) (hb : c.code = cc) (hml : c.maxLocals = nL) (hg : ∀ w ∈ gw, w.before args s = true) (hown : s.vm.findClass own = some m.cls) (hZ : gZ A s) (hK : gK D dA s) (hP : va_P D vwC ws H) (hD : va_D A ws) (hS : va_S A s.heap H locs) (hA : ∀ q, s.heap.size ≤ q → A q)
    (hM : vx_Met l y (gws y bytes maxL (some rt)) (gR lv mc ms) (gPreX D dA (.ref b :: As) wc H.size) (va_Qi post (gAt D dA (va_A wc H.size) (fun _ : Unit => [])) (va_A wc H.size)) (gX PX (va_A wc H.size)) mc ms (va_A wc H.size)) (isC isR : List Nat) (hC : isC.map (fun i => ws[i]?) = wc.map some) (hnC : va_nd isC = true) (hR : isR.map (fun i => ws[i]?) = wr.map some) (hnR : va_nd isR = true) (hdis : ∀ i ∈ isR, i ∉ isC) (q0 : Nat) (he : wc[q0]? = some (b, .inr (ci, fs))) (hcl : vwC[ci]? = some (y.cls, T, N))
    (hc : Cond.code y bytes maxL (some rt) ∈ gw) (hi : Cond.initialized y.cls ∈ gw) (hl : Cond.methodLink own index y ∈ gw) (hin : Cond.instanceMethod y ∈ gw) (hse : Cond.selects y.cls y y ∈ gw) (hd : y.cls ≠ "java/lang/invoke/MethodHandle" ∧ y.cls ≠ "java/lang/invoke/VarHandle" ∧ (parseMethodDescriptor y.desc).map (fun d => d.parameters.length) = some n) (hRm : lv + 1 ≤ R.frames ∧ 8 + (maxL + 11) + 100 * lv ≤ R.locals) (hnn : As.length = n) (hsz : ls.size = nL) (hst : st0 = As.reverse ++ .ref b :: rest) (hrm : (rest.map fun v => v.category).sum ≤ 8) (hdg : decode cc pc = .ok (.invokevirtual index, 3)) (hf : cells + mc ≤ R.cells ∧ slots + ms ≤ R.slots)
    (kx : ∀ (E : String) (ce : Cell) (q9 : Addr) (H1 : Heap) (locs1 : List Loc), PX E → va_P D vwC wr H1 → va_D A wr → va_S A s.heap H1 locs1 → H1[q9]? = some ce → ce.vm = .none → s.vm.findClass E = some ce.cls → vx_W p l e R s m args below meth c H1 locs1 (cells + mc) (slots + ms) Q (F0 m pc ls rest) q9)
    (kk : ∀ (r : Int32) (H1 : Heap) (locs1 : List Loc), post r () → va_P D vwC wr H1 → va_D A wr → va_S A s.heap H1 locs1 → W p l e R s m args below meth c H1 locs1 (cells + mc) (slots + ms) Q (F0 m (pc + 3) ls (.int r :: rest))) : W p l e R s m args below meth c H locs cells slots Q (F0 m pc ls st0) := by
  obtain ⟨hPc, hDc⟩ := g_part hP hD hC hnC
  have hF := va_free (wc := wc) hD hS hA isC hC
  refine vx_calli (vx_runV (As := As) (rest := rest) ⟨hx, hb, hml, hown, hg⟩ hM ⟨g_CB hg hc hi hl hd hRm, hg _ hin, hg _ hse⟩ ⟨g_blindX, va_recv hK hPc hcl he, fun U hU hW => ⟨rfl, by rw [hU], by rw [hU]; exact hPc, va_K.moved hW.alike hK, hDc.weaken (fun _ _ _ _ => trivial), gZ_moved hW hU hS hF hZ⟩⟩ rfl hnn hsz hst (lv_room hrm) hdg hf) hS (fun q _ h => hF q h) hF (fun q _ h => hF q h) (fun E ce q9 u t H1 locs1 ht hvm hpx hB hz1 hk1 hS1 hce hcv hcl => ?_) (fun r u t H1 locs1 ht hvm hw hB hz1 hk1 hS1 => ?_)
  · obtain ⟨hP2, hD2⟩ := g_keep hP hD hC hR hnR hdis hk1 hF
    exact kx E ce q9 H1 locs1 hB hP2 hD2 hS1 hce hcv hcl
  · obtain ⟨hP2, hD2⟩ := g_keep hP hD hC hR hnR hdis hk1 hF
    exact kk r H1 locs1 hw hP2 hD2 hS1
/-- a static call of a method with a table (the law's own) -/
theorem g_SW {S : Type} {own : String} {index maxL nL lv mc ms n : Nat} {y : MethodName} {bytes : ByteArray} {rt : FieldType} {hh : List (Nat × Nat × Nat × Nat)} {As : List Value} {wc wr : va_W} {w1 : S → va_W} {post : Int32 → S → Prop} (hx : p.tables.exec = Jvm.exec) (hb : c.code = cc) (hml : c.maxLocals = nL) (hg : ∀ w ∈ gw, w.before args s = true) (hown : s.vm.findClass own = some m.cls) (hZ : gZ A s) (hN : gNc s) (hK : gK D dA s) (hP : va_P D vwC ws H) (hD : va_D A ws) (hS : va_S A s.heap H locs) (hA : ∀ q, s.heap.size ≤ q → A q)
    (hM : Met l y (gwsW y bytes maxL (some rt) hh) (gR lv mc ms) (gPreW D dA As wc H.size) (va_Qi post (gAt D dA (va_A wc H.size) w1) (va_A wc H.size)) mc ms (va_A wc H.size)) (isC isR : List Nat) (hC : isC.map (fun i => ws[i]?) = wc.map some) (hnC : va_nd isC = true) (hR : isR.map (fun i => ws[i]?) = wr.map some) (hnR : va_nd isR = true) (hdis : ∀ i ∈ isR, i ∉ isC)
    (hc : Cond.codeWith y bytes maxL (some rt) hh ∈ gw) (hi : Cond.initialized y.cls ∈ gw) (hl : Cond.methodLink own index y ∈ gw) (hsta : Cond.static y ∈ gw) (hd : y.cls ≠ "java/lang/invoke/MethodHandle" ∧ y.cls ≠ "java/lang/invoke/VarHandle" ∧ (parseMethodDescriptor y.desc).map (fun d => d.parameters.length) = some n) (hRm : lv + 1 ≤ R.frames ∧ 8 + (maxL + 11) + 100 * lv ≤ R.locals) (hnn : As.length = n) (hsz : ls.size = nL) (hst : st0 = As.reverse ++ rest) (hrm : (rest.map fun v => v.category).sum ≤ 8) (hdg : decode cc pc = .ok (.invokestatic index, 3)) (hf : cells + mc ≤ R.cells ∧ slots + ms ≤ R.slots)
    (kk : ∀ (r : Int32) (u : S) (H1 : Heap) (locs1 : List Loc), post r u → va_P D vwC (wr ++ w1 u) H1 → va_D A (wr ++ w1 u) → va_S A s.heap H1 locs1 → W p l e R s m args below meth c H1 locs1 (cells + mc) (slots + ms) Q (F0 m (pc + 3) ls (.int r :: rest))) : W p l e R s m args below meth c H locs cells slots Q (F0 m pc ls st0) := by
  obtain ⟨hPc, hDc⟩ := g_part hP hD hC hnC
  have hF := va_free (wc := wc) hD hS hA isC hC
  have hcw : vx_CSW R s args own index y bytes maxL (some rt) hh (gwsW y bytes maxL (some rt) hh) (gR lv mc ms) mc ms n := by
    refine ⟨⟨rfl, rfl, hRm.1, hRm.2, fun w hw a' U hW => ?_, List.mem_cons_self⟩, hg _ hc, hg _ hi, ⟨hd.1, hd.2.1⟩, fun sig h => ?_, hg _ hl, hg _ hsta⟩
    · rcases List.mem_cons.mp hw with e1 | h1
      · rw [e1]; exact gOK_pay hW (List.mem_filter.mp hc).2 (hg _ hc)
      · exact gOK_pay hW (List.mem_filter.mp h1).2 (hg _ h1)
    · have h2 := hd.2.2
      rw [h] at h2
      exact (Option.some.inj h2).symm
  exact va_calli (vx_runSW (As := As) (rest := rest) ⟨hx, hb, hml, hown, hg⟩ hM hcw ⟨g_blindW, fun U hU hW => ⟨rfl, by rw [hU], by rw [hU]; exact hPc, va_K.moved hW.alike hK, hDc.weaken (fun _ _ _ _ => trivial), gZ_moved hW hU hS hF hZ, gNc_moved hW.alike hN⟩⟩ rfl hnn hsz hst (lv_room hrm) hdg hf) hS (fun q _ h => hF q h) hF (fun r u t H1 locs1 ht hvm hw hB hz1 hk1 hS1 => by
    obtain ⟨hP2, hD2⟩ := g_back hP hD hC hR hnR hdis ht hk1 hF hB
    exact kk r u H1 locs1 hw hP2 hD2 hS1)
end GX
/-- in range, by two branches -/
theorem g_in {x M : Int32} {n : Nat} (hM : M.toInt = (n : Int)) (h0 : ¬ x < 0) (h1 : x < M) : vp_in x n := by
  rw [vp_in_iff]
  rw [Int32.lt_iff_toInt_lt] at h0 h1
  have e0 : (0 : Int32).toInt = 0 := by decide
  rw [e0] at h0
  rw [hM] at h1
  omega
theorem g_inle {x M : Int32} {n : Nat} (hM : M.toInt + 1 = (n : Int)) (h0 : ¬ x < 0) (h1 : x ≤ M) : vp_in x n := by
  rw [vp_in_iff]
  rw [Int32.lt_iff_toInt_lt] at h0
  rw [Int32.le_iff_toInt_le] at h1
  have e0 : (0 : Int32).toInt = 0 := by decide
  rw [e0] at h0
  omega
set_option maxRecDepth 20000 in
theorem atIAE : ∀ w ∈ vx_atS RX10 94 xIAE xRE, w ∈ gw := gw_all [161, 718, 669, 678, 681, 683, 719, 720, 186, 187, 663, 668, 679, 686, 712, 687, 713, 688, 714, 664, 666, 715, 661, 662, 685, 715, 742, 743, 744, 655, 706, 655, 656, 657, 658, 708, 658, 659, 660, 661, 710, 741, 732, 733, 734, 673, 735, 736, 737, 738, 684, 716, 739] (by decide +kernel) (by decide +kernel)
set_option maxRecDepth 20000 in
theorem atIOB : ∀ w ∈ vx_atS RX10 107 xIOB xRE, w ∈ gw := gw_all [161, 718, 669, 678, 681, 683, 719, 720, 186, 187, 663, 668, 679, 686, 712, 687, 713, 688, 714, 664, 666, 715, 661, 662, 685, 715, 652, 653, 654, 655, 706, 655, 656, 657, 658, 708, 658, 659, 660, 661, 710, 761, 752, 753, 754, 675, 755, 756, 757, 758, 684, 716, 759] (by decide +kernel) (by decide +kernel)
set_option maxRecDepth 20000 in
theorem atISE : ∀ w ∈ vx_atS RX10 171 xISE xRE, w ∈ gw := gw_all [161, 718, 669, 678, 681, 683, 719, 720, 186, 187, 663, 668, 679, 686, 712, 687, 713, 688, 714, 664, 666, 715, 661, 662, 685, 715, 1275, 1276, 1277, 655, 706, 655, 656, 657, 658, 708, 658, 659, 660, 661, 710, 1274, 1265, 1266, 1267, 674, 1268, 1269, 1270, 1271, 684, 716, 1272] (by decide +kernel) (by decide +kernel)
