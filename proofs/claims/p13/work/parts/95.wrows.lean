/-! L: rows for worlds put together -/
theorem w_nd : ∀ l : List Nat, l.Nodup → va_nd l = true
  | [], _ => rfl
  | a :: l, h => by
    obtain ⟨h1, h2⟩ := List.nodup_cons.mp h
    simp only [va_nd, Bool.and_eq_true, decide_eq_true_eq]
    exact ⟨h1, w_nd l h2⟩
def w_C (a b : va_W) : List Nat := (List.range b.length).map (fun i => i + a.length)
def w_R (a : va_W) : List Nat := List.range a.length
theorem w_Ce {a b : va_W} : (w_C a b).map (fun i => (a ++ b)[i]?) = b.map some := by
  unfold w_C
  rw [List.map_map]
  apply List.ext_getElem
  · simp
  · intro i h1 h2
    have hb : i < b.length := by simpa using h2
    simp only [List.getElem_map, List.getElem_range, Function.comp]
    rw [List.getElem?_append_right (by omega), show i + a.length - a.length = i by omega, List.getElem?_eq_getElem hb]
theorem w_Re {a b : va_W} : (w_R a).map (fun i => (a ++ b)[i]?) = a.map some := by
  unfold w_R
  apply List.ext_getElem
  · simp
  · intro i h1 h2
    have ha : i < a.length := by simpa using h2
    simp only [List.getElem_map, List.getElem_range]
    rw [List.getElem?_append_left ha, List.getElem?_eq_getElem ha]
theorem w_Cd {a b : va_W} : (w_C a b).Nodup := by
  unfold w_C List.Nodup
  rw [List.pairwise_map]
  exact (List.nodup_range (n := b.length)).imp (fun h => by omega)
theorem w_dis {a b : va_W} : ∀ i ∈ w_R a, i ∉ w_C a b := by
  intro i h1 h2
  unfold w_R at h1
  unfold w_C at h2
  have h3 := List.mem_range.mp h1
  obtain ⟨j, -, hj⟩ := List.mem_map.mp h2
  omega
theorem w_Cn {a b : va_W} : va_nd (w_C a b) = true := w_nd _ w_Cd
theorem w_Rn {a : va_W} : va_nd (w_R a) = true := w_nd _ List.nodup_range
theorem w_swap {D : va_G} {A : Nat → Prop} {a b : va_W} {H : Heap} (hP : va_P D vwC (a ++ b) H) (hD : va_D A (a ++ b)) : va_P D vwC (b ++ a) H ∧ va_D A (b ++ a) := by
  refine g_part (isC := w_C a b ++ w_R a) hP hD (by rw [List.map_append, w_Ce, w_Re, List.map_append]) (w_nd _ ?_)
  refine List.nodup_append.mpr ⟨w_Cd, List.nodup_range, fun x h1 y h2 e => ?_⟩
  rw [e] at h1
  exact w_dis y h2 h1
def zNcs : List (String × String) := [(xIOB, xIAE), (xISE, xIAE), (xUOE, xIAE), (xNSE, xIAE), (xNSE, xUOE), (xIOB, xUOE), (xIOB, xNSE), (xARI, xIAE), (xARI, xUOE), (xARI, xNSE), (xARI, xIOB), (xUOE, xISE), (xNSE, xISE), (xIOB, xISE), (xARI, xISE)]
def zNc (U : State) : Prop := ∀ q ∈ zNcs, va_Nc q.1 q.2 U
theorem zNc_moved {s U : State} (hW : s.vm.Alike U.vm) (h : zNc s) : zNc U := fun q hq => (h q hq).moved hW
abbrev gwsW (y : MethodName) (b : ByteArray) (n : Nat) (r : Option FieldType) (hh : List (Nat × Nat × Nat × Nat)) : List Cond := .codeWith y b n r hh :: gw
abbrev zPreW (D : va_G) (dA : Nat → ClassId) (tf tc : Nat) (aK aV : Nat → Nat) (av : List Value) (w0 : va_W) (sz : Nat) : Array Value → State → Prop := va_Pc av (fun U => U.heap.size = sz ∧ va_P D vwC w0 U.heap ∧ gK D dA U ∧ va_D (fun _ => True) w0 ∧ zE tf tc aK aV (va_A w0 sz) U ∧ zNc U)
theorem z_blindW {D : va_G} {dA : Nat → ClassId} {tf tc : Nat} {aK aV : Nat → Nat} {av : List Value} {w0 : va_W} {sz : Nat} : FrameBlind (zPreW D dA tf tc aK aV av w0 sz) := fun a U g mk q => by
  obtain ⟨q0, q1, qP, qK, qD, qE, qN⟩ := q
  exact ⟨q0, q1, qP, va_K.moved (u := U) (U := U.calling g mk a) (Vm.Alike.refl U.vm) qK, qD, zE_call qE, zNc_moved (Vm.Alike.refl U.vm) qN⟩
/-- the class's world and the array beside it -/
def zOc (dA : Nat → ClassId) (o : Nat) (g : Nat → Int64) : va_W := [(o, .inl (dA 1, 1, .inr (.inl g)))]
def zO (dA : Nat → ClassId) (ad : Int → Nat → Nat) (o : Nat) (u : ZS × (Nat → Int64)) : va_W := zOc dA o u.2 ++ zC dA ad u.1
/-- what a wrapper answers -/
def zWa (f : Int → Int64) (Q : Int → ZS → Prop) (X : String → ZS → Prop) (names : List String) : Int32 → ZS × (Nat → Int64) → Prop := fun k u => (k = 0 ∧ ∃ v : Int, u.2 0 = f v ∧ Q v u.1) ∨ ∃ (i : Nat) (E : String), names[i]? = some E ∧ k = nI (i + 1) ∧ X E u.1
theorem g_z0 : (0 : Int32).toNatClampNeg = 0 := by decide
theorem g_o0 (g : Nat → Int64) (v : Int64) : vp_updL g (0 : Int32).toNatClampNeg v 0 = v := by rw [g_z0]; exact pk_uLs
theorem g_cmp0 {x y : Int64} (h : x = y) : lg_cmp x y = 0 := by
  subst h
  unfold lg_cmp
  rw [if_neg (by rw [gt_iff_lt, Int64.lt_iff_toInt_lt]; omega), if_pos rfl]
section WROWS
variable {p : Program} {l : Launch} {e : Env} {R : Room} {s : State} {m : MethodId} {args : Array Value} {below : List Frame} {meth : Method} {c : Code} {H : Heap} {locs : List Loc} {cells slots : Nat} {Q : State → Prop}
variable {cc : ByteArray} {pc : Nat} {ls : Array Slot} {rest st0 : List Value} {D : va_G} {dA : Nat → ClassId} {A : Nat → Prop} {σ : ZS} {w1 : ZS → va_W} {tf tc : Nat} {aK aV : Nat → Nat}
/-- a call of the reference beside other cells -/
theorem wl_Vi {own : String} {T : u_T} {N ci index maxL nL lv n b : Nat} {y : MethodName} {bytes : ByteArray} {rt : FieldType} {As : List Value} {wr : va_W} {Q1 : Int → ZS → Prop} {fs : List Value} (hx : p.tables.exec = Jvm.exec) (hb : c.code = cc) (hml : c.maxLocals = nL) (hg : ∀ w ∈ gw, w.before args s = true) (hown : s.vm.findClass own = some m.cls) (hK : gK D dA s) (hP : va_P D vwC (wr ++ w1 σ) H) (hD : va_D A (wr ++ w1 σ)) (hS : va_S A s.heap H locs) (hA : ∀ q : Nat, s.heap.size ≤ q → A q) (hM : Met l y (gws y bytes maxL (some rt)) (gR lv 0 0) (gPre D dA (.ref b :: As) (w1 σ) H.size) (va_Qi (zQi Q1) (gAt D dA (va_A (w1 σ) H.size) w1) (va_A (w1 σ) H.size)) 0 0 (va_A (w1 σ) H.size)) (he : (w1 σ)[0]? = some (b, .inr (ci, fs))) (hcl : vwC[ci]? = some (y.cls, T, N)) (hc : Cond.code y bytes maxL (some rt) ∈ gw) (hi : Cond.initialized y.cls ∈ gw) (hl : Cond.methodLink own index y ∈ gw) (hin : Cond.instanceMethod y ∈ gw) (hse : Cond.selects y.cls y y ∈ gw) (hd : y.cls ≠ "java/lang/invoke/MethodHandle" ∧ y.cls ≠ "java/lang/invoke/VarHandle" ∧ (parseMethodDescriptor y.desc).map (fun d => d.parameters.length) = some n) (hRm : lv + 1 ≤ R.frames ∧ 8 + (maxL + 11) + 100 * lv ≤ R.locals) (hnn : As.length = n) (hsz : ls.size = nL) (hst : st0 = As.reverse ++ .ref b :: rest) (hrm : (rest.map fun v => v.category).sum ≤ 8) (hdg : decode cc pc = .ok (.invokevirtual index, 3)) (hf : cells ≤ R.cells ∧ slots ≤ R.slots) (kk : ∀ (v : Int) (u : ZS) (H1 : Heap) (locs1 : List Loc), Q1 v u → va_P D vwC (wr ++ w1 u) H1 → va_D A (wr ++ w1 u) → va_S A s.heap H1 locs1 → W p l e R s m args below meth c H1 locs1 cells slots Q (F0 m (pc + 3) ls (.int (Int32.ofInt v) :: rest))) : W p l e R s m args below meth c H locs cells slots Q (F0 m pc ls st0) := by
  refine g_Vi (wc := w1 σ) (wr := wr) (w1 := w1) (post := zQi Q1) hx hb hml hg hown hK hP hD hS hA hM (w_C wr (w1 σ)) (w_R wr) w_Ce w_Cn w_Re w_Rn w_dis 0 he hcl hc hi hl hin hse hd hRm hnn hsz hst hrm hdg hf (fun r u H1 locs1 hw hP1 hD1 hS1 => ?_)
  obtain ⟨v, rfl, hw⟩ := hw
  exact kk v u H1 locs1 hw hP1 hD1 hS1
/-- a call of the class that may throw, beside other cells -/
theorem wl_Vx {own : String} {T : u_T} {N ci index maxL nL lv mc ms n b : Nat} {y : MethodName} {bytes : ByteArray} {rt : FieldType} {As : List Value} {wr : va_W} {Q1 : Int → ZS → Prop} {X : String → ZS → Prop} {fs : List Value} (hx : p.tables.exec = Jvm.exec) (hb : c.code = cc) (hml : c.maxLocals = nL) (hg : ∀ w ∈ gw, w.before args s = true) (hown : s.vm.findClass own = some m.cls) (hE : zE tf tc aK aV A s) (hK : gK D dA s) (hP : va_P D vwC (wr ++ w1 σ) H) (hD : va_D A (wr ++ w1 σ)) (hS : va_S A s.heap H locs) (hA : ∀ q : Nat, s.heap.size ≤ q → A q)
    (hM : vx_Met l y (gws y bytes maxL (some rt)) (gR lv mc ms) (gPreE D dA tf tc aK aV (.ref b :: As) (w1 σ) H.size) (va_Qi (zQi Q1) (gAt D dA (va_A (w1 σ) H.size) w1) (va_A (w1 σ) H.size)) (zX D dA X w1 (va_A (w1 σ) H.size)) mc ms (va_A (w1 σ) H.size)) (he : (w1 σ)[0]? = some (b, .inr (ci, fs))) (hcl : vwC[ci]? = some (y.cls, T, N))
    (hc : Cond.code y bytes maxL (some rt) ∈ gw) (hi : Cond.initialized y.cls ∈ gw) (hl : Cond.methodLink own index y ∈ gw) (hin : Cond.instanceMethod y ∈ gw) (hse : Cond.selects y.cls y y ∈ gw) (hd : y.cls ≠ "java/lang/invoke/MethodHandle" ∧ y.cls ≠ "java/lang/invoke/VarHandle" ∧ (parseMethodDescriptor y.desc).map (fun d => d.parameters.length) = some n) (hRm : lv + 1 ≤ R.frames ∧ 8 + (maxL + 11) + 100 * lv ≤ R.locals) (hnn : As.length = n) (hsz : ls.size = nL) (hst : st0 = As.reverse ++ .ref b :: rest) (hrm : (rest.map fun v => v.category).sum ≤ 8) (hdg : decode cc pc = .ok (.invokevirtual index, 3)) (hf : cells + mc ≤ R.cells ∧ slots + ms ≤ R.slots)
    (kx : ∀ (E : String) (u : ZS) (ce : Cell) (q9 : Addr) (H1 : Heap) (locs1 : List Loc), X E u → va_P D vwC (wr ++ w1 u) H1 → va_D A (wr ++ w1 u) → va_S A s.heap H1 locs1 → H1[q9]? = some ce → ce.vm = .none → s.vm.findClass E = some ce.cls → vx_W p l e R s m args below meth c H1 locs1 (cells + mc) (slots + ms) Q (F0 m pc ls rest) q9)
    (kk : ∀ (v : Int) (u : ZS) (H1 : Heap) (locs1 : List Loc), Q1 v u → va_P D vwC (wr ++ w1 u) H1 → va_D A (wr ++ w1 u) → va_S A s.heap H1 locs1 → W p l e R s m args below meth c H1 locs1 (cells + mc) (slots + ms) Q (F0 m (pc + 3) ls (.int (Int32.ofInt v) :: rest))) : W p l e R s m args below meth c H locs cells slots Q (F0 m pc ls st0) := by
  obtain ⟨hPc, hDc⟩ := g_part (wc := w1 σ) (isC := w_C wr (w1 σ)) hP hD w_Ce w_Cn
  have hF := va_free (wc := w1 σ) hD hS hA (w_C wr (w1 σ)) w_Ce
  refine vx_calli (vx_runV (As := As) (rest := rest) ⟨hx, hb, hml, hown, hg⟩ hM ⟨g_CB hg hc hi hl hd hRm, hg _ hin, hg _ hse⟩ ⟨g_blindE, va_recv hK hPc hcl he, fun U hU hW => ⟨rfl, by rw [hU], by rw [hU]; exact hPc, va_K.moved hW.alike hK, hDc.weaken (fun _ _ _ _ => trivial), zE_moved hW hU hS hF hE⟩⟩ rfl hnn hsz hst (lv_room hrm) hdg hf) hS (fun q _ h => hF q h) hF (fun q _ h => hF q h) (fun E ce q9 u t H1 locs1 ht hvm hpx hB hz1 hk1 hS1 hce hcv hcl => ?_) (fun r u t H1 locs1 ht hvm hw hB hz1 hk1 hS1 => ?_)
  · obtain ⟨hX, hB⟩ := hB
    obtain ⟨hP2, hD2⟩ := g_back (wr := wr) (isC := w_C wr (w1 σ)) (isR := w_R wr) hP hD w_Ce w_Re w_Rn w_dis ht hk1 hF hB
    exact kx E u ce q9 H1 locs1 hX hP2 hD2 hS1 hce hcv hcl
  · obtain ⟨v, rfl, hw⟩ := hw
    obtain ⟨hP2, hD2⟩ := g_back (wr := wr) (isC := w_C wr (w1 σ)) (isR := w_R wr) hP hD w_Ce w_Re w_Rn w_dis ht hk1 hF hB
    exact kk v u H1 locs1 hw hP2 hD2 hS1
/-- a call of a wrapper, beside other cells -/
theorem wl_SW {S : Type} {own : String} {index maxL nL lv mc ms n : Nat} {y : MethodName} {bytes : ByteArray} {rt : FieldType} {hh : List (Nat × Nat × Nat × Nat)} {As : List Value} {wr : va_W} {w2 : S → va_W} {u0 : S} {post : Int32 → S → Prop} (hx : p.tables.exec = Jvm.exec) (hb : c.code = cc) (hml : c.maxLocals = nL) (hg : ∀ w ∈ gw, w.before args s = true) (hown : s.vm.findClass own = some m.cls) (hE : zE tf tc aK aV A s) (hN : zNc s) (hK : gK D dA s) (hP : va_P D vwC (wr ++ w2 u0) H) (hD : va_D A (wr ++ w2 u0)) (hS : va_S A s.heap H locs) (hA : ∀ q : Nat, s.heap.size ≤ q → A q)
    (hM : Met l y (gwsW y bytes maxL (some rt) hh) (gR lv mc ms) (zPreW D dA tf tc aK aV As (w2 u0) H.size) (va_Qi post (gAt D dA (va_A (w2 u0) H.size) w2) (va_A (w2 u0) H.size)) mc ms (va_A (w2 u0) H.size))
    (hc : Cond.codeWith y bytes maxL (some rt) hh ∈ gw) (hi : Cond.initialized y.cls ∈ gw) (hl : Cond.methodLink own index y ∈ gw) (hsta : Cond.static y ∈ gw) (hd : y.cls ≠ "java/lang/invoke/MethodHandle" ∧ y.cls ≠ "java/lang/invoke/VarHandle" ∧ (parseMethodDescriptor y.desc).map (fun d => d.parameters.length) = some n) (hRm : lv + 1 ≤ R.frames ∧ 8 + (maxL + 11) + 100 * lv ≤ R.locals) (hnn : As.length = n) (hsz : ls.size = nL) (hst : st0 = As.reverse ++ rest) (hrm : (rest.map fun v => v.category).sum ≤ 8) (hdg : decode cc pc = .ok (.invokestatic index, 3)) (hf : cells + mc ≤ R.cells ∧ slots + ms ≤ R.slots)
    (kk : ∀ (r : Int32) (u : S) (H1 : Heap) (locs1 : List Loc), post r u → va_P D vwC (wr ++ w2 u) H1 → va_D A (wr ++ w2 u) → va_S A s.heap H1 locs1 → W p l e R s m args below meth c H1 locs1 (cells + mc) (slots + ms) Q (F0 m (pc + 3) ls (.int r :: rest))) : W p l e R s m args below meth c H locs cells slots Q (F0 m pc ls st0) := by
  obtain ⟨hPc, hDc⟩ := g_part (wc := w2 u0) (isC := w_C wr (w2 u0)) hP hD w_Ce w_Cn
  have hF := va_free (wc := w2 u0) hD hS hA (w_C wr (w2 u0)) w_Ce
  have hcw : vx_CSW R s args own index y bytes maxL (some rt) hh (gwsW y bytes maxL (some rt) hh) (gR lv mc ms) mc ms n := by
    refine ⟨⟨rfl, rfl, hRm.1, hRm.2, fun w hw a' U hW => ?_, List.mem_cons_self⟩, hg _ hc, hg _ hi, ⟨hd.1, hd.2.1⟩, fun sig h => ?_, hg _ hl, hg _ hsta⟩
    · rcases List.mem_cons.mp hw with e1 | h1
      · rw [e1]; exact gOK_pay hW (List.mem_filter.mp hc).2 (hg _ hc)
      · exact gOK_pay hW (List.mem_filter.mp h1).2 (hg _ h1)
    · have h2 := hd.2.2
      rw [h] at h2
      exact (Option.some.inj h2).symm
  exact va_calli (vx_runSW (As := As) (rest := rest) ⟨hx, hb, hml, hown, hg⟩ hM hcw ⟨z_blindW, fun U hU hW => ⟨rfl, by rw [hU], by rw [hU]; exact hPc, va_K.moved hW.alike hK, hDc.weaken (fun _ _ _ _ => trivial), zE_moved hW hU hS hF hE, zNc_moved hW.alike hN⟩⟩ rfl hnn hsz hst (lv_room hrm) hdg hf) hS (fun q _ h => hF q h) hF (fun r u t H1 locs1 ht hvm hw hB hz1 hk1 hS1 => by
    obtain ⟨hP2, hD2⟩ := g_back (wr := wr) (isC := w_C wr (w2 u0)) (isR := w_R wr) hP hD w_Ce w_Re w_Rn w_dis ht hk1 hF hB
    exact kk r u H1 locs1 hw hP2 hD2 hS1)
end WROWS
