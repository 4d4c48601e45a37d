/-! Z: names and rows of the library's own members -/
def RJ6 : String := "java/lang/Intege\x72"
abbrev cJ6_bitCount_0f7a4 : ByteArray := prog_24_method_49_code
def yJ6_bitCount_0f7a4 : MethodName := ⟨RJ6, "bitCount", "(I)I"⟩
def RJ9 : String := "java/lang/Math"
abbrev cJ9_max_7cf53 : ByteArray := prog_25_method_65_code
def yJ9_max_7cf53 : MethodName := ⟨RJ9, "max", "(II)I"⟩
abbrev cJ9_min_7cf53 : ByteArray := prog_25_method_69_code
def yJ9_min_7cf53 : MethodName := ⟨RJ9, "min", "(II)I"⟩
def RJ0 : String := "java/lang/String"
abbrev cJ0_length_8abf5 : ByteArray := prog_27_method_54_code
def yJ0_length_8abf5 : MethodName := ⟨RJ0, "length", "()I"⟩
abbrev cJ0_charAt_5068e : ByteArray := prog_27_method_56_code
def yJ0_charAt_5068e : MethodName := ⟨RJ0, "charAt", "(I)C"⟩
abbrev cJ0_indexOf_0f7a4 : ByteArray := prog_27_method_79_code
def yJ0_indexOf_0f7a4 : MethodName := ⟨RJ0, "indexOf", "(I)I"⟩
abbrev cJ0_indexOf_7cf53 : ByteArray := prog_27_method_80_code
def yJ0_indexOf_7cf53 : MethodName := ⟨RJ0, "indexOf", "(II)I"⟩
abbrev cJ0_coder_7d493 : ByteArray := prog_27_method_152_code
def yJ0_coder_7d493 : MethodName := ⟨RJ0, "code\x72", "()B"⟩
abbrev cJ0_isLatin1_aae02 : ByteArray := prog_27_method_154_code
def yJ0_isLatin1_aae02 : MethodName := ⟨RJ0, "isLatin1", "()Z"⟩
abbrev cJ0_checkIndex_df160 : ByteArray := prog_27_method_155_code
def yJ0_checkIndex_df160 : MethodName := ⟨RJ0, "checkIndex", "(II)V"⟩
abbrev cJ0_checkBoundsBeginEnd_23922 : ByteArray := prog_27_method_158_code
def yJ0_checkBoundsBeginEnd_23922 : MethodName := ⟨RJ0, "checkBoundsBeginEnd", "(III)V"⟩
def RJ1 : String := "java/lang/StringLatin1"
abbrev cJ1_charAt_3b067 : ByteArray := prog_28_method_2_code
def yJ1_charAt_3b067 : MethodName := ⟨RJ1, "charAt", "([BI)C"⟩
abbrev cJ1_canEncode_9a6ad : ByteArray := prog_28_method_4_code
def yJ1_canEncode_9a6ad : MethodName := ⟨RJ1, "canEncode", "(I)Z"⟩
abbrev cJ1_indexOf_4cfef : ByteArray := prog_28_method_22_code
def yJ1_indexOf_4cfef : MethodName := ⟨RJ1, "indexOf", "([BIII)I"⟩
abbrev cJ1_indexOfChar_4cfef : ByteArray := prog_28_method_23_code
def yJ1_indexOfChar_4cfef : MethodName := ⟨RJ1, "indexOfCha\x72", "([BIII)I"⟩
def RJ10 : String := "java/lang/System"
def RJ3 : String := "jdk/internal/util/Preconditions"
abbrev cJ3_checkIndex_8e157 : ByteArray := prog_37_method_11_code
def yJ3_checkIndex_8e157 : MethodName := ⟨RJ3, "checkIndex", "(IILjava/util/function/BiFunction;)I"⟩
abbrev cJ3_checkFromToIndex_8c36e : ByteArray := prog_37_method_12_code
def yJ3_checkFromToIndex_8c36e : MethodName := ⟨RJ3, "checkFromToIndex", "(IIILjava/util/function/BiFunction;)I"⟩
theorem zI_nf {σ : ZS} {g g' v : Int} {f f' : Nat} (h : f' ≠ f) : zI (zsI σ g f v) g' f' = zI σ g' f' := by
  show (if g' = g then (if f' = f then v else σ.1 g' f') else σ.1 g' f') = σ.1 g' f'
  rw [if_neg h]; split <;> rfl
theorem zI_ng {σ : ZS} {g g' v : Int} {f f' : Nat} (h : g' ≠ g) : zI (zsI σ g f v) g' f' = zI σ g' f' := by
  show (if g' = g then (if f' = f then v else σ.1 g' f') else σ.1 g' f') = σ.1 g' f'
  rw [if_neg h]
theorem zI_eq {σ : ZS} {g v : Int} {f : Nat} : zI (zsI σ g f v) g f = v := by
  show (if g = g then (if f = f then v else σ.1 g f) else σ.1 g f) = v
  rw [if_pos rfl, if_pos rfl]
theorem zI_F {σ : ZS} {g g' : Int} {f f' : Nat} {h : Int → Int} : zI (zsF σ g f h) g' f' = zI σ g' f' := rfl
theorem zA_I {σ : ZS} {g g' v : Int} {f f' : Nat} : zA (zsI σ g f v) g' f' = zA σ g' f' := rfl
theorem zA_nf {σ : ZS} {g g' : Int} {f f' : Nat} {k : Int → Int} (h : f' ≠ f) : zA (zsF σ g f k) g' f' = zA σ g' f' := by
  show (if g' = g then (if f' = f then k else σ.2 g' f') else σ.2 g' f') = σ.2 g' f'
  rw [if_neg h]; split <;> rfl
theorem zA_ng {σ : ZS} {g g' : Int} {f f' : Nat} {k : Int → Int} (h : g' ≠ g) : zA (zsF σ g f k) g' f' = zA σ g' f' := by
  show (if g' = g then (if f' = f then k else σ.2 g' f') else σ.2 g' f') = σ.2 g' f'
  rw [if_neg h]
theorem zA_eq {σ : ZS} {g : Int} {f : Nat} {k : Int → Int} : zA (zsF σ g f k) g f = k := by
  show (if g = g then (if f = f then k else σ.2 g f) else σ.2 g f) = k
  rw [if_pos rfl, if_pos rfl]
def zcpy (f h : Int → Int) (sp dp n : Int) : Int → Int := fun j => if dp ≤ j ∧ j < dp + n then f (sp + (j - dp)) else h j
theorem zn_iushr {a : Int} (k : Nat) {y M : Int} (hy : ((Int32.ofInt y).toUInt32 &&& Int32.toUInt32 31).toNat % 32 = k) (hM : ((2 ^ k : Nat) : Int) = M) (h : 0 ≤ a ∧ a ≤ 2147483647) : ((Int32.ofInt a).toUInt32 >>> ((Int32.ofInt y).toUInt32 &&& Int32.toUInt32 31)).toInt32 = Int32.ofInt (a / M) := by
  apply Int32.toBitVec_inj.mp
  apply BitVec.eq_of_toNat_eq
  have e1 : ((Int32.ofInt a).toBitVec.toNat : Int) = a := by rw [z_tn]; omega
  have hp : (0 : Int) < M := by
    rw [← hM]
    have := Nat.two_pow_pos k
    omega
  have h1 : a / M ≤ a := Int.ediv_le_self _ h.1
  have h2 : 0 ≤ a / M := Int.ediv_nonneg h.1 (by omega)
  have e2 : ((Int32.ofInt (a / M)).toBitVec.toNat : Int) = a / M := by rw [z_tn]; omega
  show ((Int32.ofInt a).toUInt32 >>> _).toNat = _
  rw [UInt32.toNat_shiftRight, hy, Nat.shiftRight_eq_div_pow]
  apply Int.ofNat.inj
  show (((Int32.ofInt a).toBitVec.toNat / 2 ^ k : Nat) : Int) = ((Int32.ofInt (a / M)).toBitVec.toNat : Int)
  rw [e2, Int.natCast_ediv, e1, hM]
theorem z_cpy {f h : Int → Int} {sp dp n : Int} (hh : 0 ≤ sp ∧ 0 ≤ dp ∧ 0 ≤ n ∧ sp + n ≤ 400 ∧ dp + n ≤ 1200) : va_cpy (zfi f) (zfi h) (Int32.ofInt sp).toNatClampNeg (Int32.ofInt dp).toNatClampNeg (Int32.ofInt n).toNatClampNeg = zfi (zcpy f h sp dp n) := by
  funext j
  rw [z_clamp (n := 401) (by omega) (by decide), z_clamp (n := 1201) (by omega) (by decide), z_clamp (n := 401) (by omega) (by decide)]
  show (if dp.toNat ≤ j ∧ j < dp.toNat + n.toNat then Int32.ofInt (f ((sp.toNat + (j - dp.toNat) : Nat) : Int)) else Int32.ofInt (h j)) = Int32.ofInt (if dp ≤ (j : Int) ∧ (j : Int) < dp + n then f (sp + ((j : Int) - dp)) else h j)
  by_cases e : dp ≤ (j : Int) ∧ (j : Int) < dp + n
  · rw [if_pos e, if_pos (by omega)]
    congr 2
    omega
  · rw [if_neg e, if_neg (by omega)]
theorem z_nlt {a : Int} (h : 0 ≤ a ∧ a ≤ 2147483647) : ¬ Int32.ofInt a < 0 := fun q => by
  have := (z_lt (a := a) (b := 0) (by omega) (by decide)).mp q
  omega
theorem qM_i : Cond.initialized "java/lang/Math" ∈ gw := gw_in (i := 172) (by decide +kernel) rfl
theorem qMmin_s : Cond.static Lib.Math.min.name ∈ gw := gw_in (i := 878) (by decide +kernel) rfl
theorem qMmin_c : Cond.code Lib.Math.min.name Lib.Math.min.code 2 (some .int) ∈ gw := gw_in (i := 879) (by decide +kernel) rfl
theorem qMmax_s : Cond.static Lib.Math.max.name ∈ gw := gw_in (i := 898) (by decide +kernel) rfl
theorem qMmax_c : Cond.code Lib.Math.max.name Lib.Math.max.code 2 (some .int) ∈ gw := gw_in (i := 899) (by decide +kernel) rfl
section ZJDK
variable {p : Program} {l : Launch} {e : Env} {R : Room} {s : State} {m : MethodId} {args : Array Value} {below : List Frame} {meth : Method} {c : Code} {H : Heap} {locs : List Loc} {cells slots : Nat} {Q : State → Prop}
variable {cc : ByteArray} {pc : Nat} {ls : Array Slot} {rest : List Value} {D : va_G} {dA : Nat → ClassId} {A : Nat → Prop} {H0 : Heap} {ad : Int → Nat → Nat} {σ : ZS} {w1 : ZS → va_W} {st0 : List Value}
theorem g_CN {own host : String} {index maxL lv mc ms n : Nat} {y : MethodName} {bytes : ByteArray} {ret : Option FieldType} (hg : ∀ w ∈ gw, w.before args s = true) (hc : Cond.code y bytes maxL ret ∈ gw) (hi : Cond.initialized y.cls ∈ gw) (hl : Cond.methodLinkNest own index y host ∈ gw) (hd : y.cls ≠ "java/lang/invoke/MethodHandle" ∧ y.cls ≠ "java/lang/invoke/VarHandle" ∧ (parseMethodDescriptor y.desc).map (fun d => d.parameters.length) = some n) (hR : lv + 1 ≤ R.frames ∧ 8 + (maxL + 11) + 100 * lv ≤ R.locals) :
    va_CN R s args own index y host bytes maxL ret (gws y bytes maxL ret) (gR lv mc ms) mc ms n := by
  refine ⟨⟨rfl, rfl, hR.1, hR.2, fun w hw a' U hW => ?_, List.mem_cons_self⟩, hg _ hc, hg _ hi, ⟨hd.1, hd.2.1⟩, fun sig h => ?_, hg _ hl⟩
  · rcases List.mem_cons.mp hw with e1 | h1
    · rw [e1]; exact gOK_pay hW (List.mem_filter.mp hc).2 (hg _ hc)
    · exact gOK_pay hW (List.mem_filter.mp h1).2 (hg _ h1)
  · have h2 := hd.2.2
    rw [h] at h2
    exact (Option.some.inj h2).symm
theorem z_VvN {own host : String} {T : u_T} {N ci index maxL nL lv n b : Nat} {y : MethodName} {bytes : ByteArray} {As : List Value} {Q1 : ZS → Prop} (hx : p.tables.exec = Jvm.exec) (hb : c.code = cc) (hml : c.maxLocals = nL) (hg : ∀ w ∈ gw, w.before args s = true) (hown : s.vm.findClass own = some m.cls) (hK : gK D dA s) (hP : va_P D vwC (w1 σ) H) (hD : va_D A (w1 σ)) (hS : va_S A H0 H locs) (hA : ∀ q : Nat, H0.size ≤ q → A q) (hM : Met l y (gws y bytes maxL none) (gR lv 0 0) (gPre D dA (.ref b :: As) (w1 σ) H.size) (va_Qv Q1 (gAt D dA (va_A (w1 σ) H.size) w1) (va_A (w1 σ) H.size)) 0 0 (va_A (w1 σ) H.size)) (he : ∃ (q0 : Nat) (fs : List Value), (w1 σ)[q0]? = some (b, .inr (ci, fs))) (hcl : vwC[ci]? = some (y.cls, T, N)) (hc : Cond.code y bytes maxL none ∈ gw) (hi : Cond.initialized y.cls ∈ gw) (hl : Cond.methodLinkNest own index y host ∈ gw) (hin : Cond.instanceMethod y ∈ gw) (hse : Cond.selects y.cls y y ∈ gw) (hd : y.cls ≠ "java/lang/invoke/MethodHandle" ∧ y.cls ≠ "java/lang/invoke/VarHandle" ∧ (parseMethodDescriptor y.desc).map (fun d => d.parameters.length) = some n) (hRm : lv + 1 ≤ R.frames ∧ 8 + (maxL + 11) + 100 * lv ≤ R.locals) (hnn : As.length = n) (hsz : ls.size = nL) (hst : st0 = As.reverse ++ .ref b :: rest) (hrm : (rest.map fun v => v.category).sum ≤ 8) (hdg : decode cc pc = .ok (.invokevirtual index, 3)) (hf : cells ≤ R.cells ∧ slots ≤ R.slots) (kk : ∀ (u : ZS) (H1 : Heap) (locs1 : List Loc), Q1 u → va_P D vwC (w1 u) H1 → va_D A (w1 u) → va_S A H0 H1 locs1 → W p l e R s m args below meth c H1 locs1 cells slots Q (F0 m (pc + 3) ls rest)) : W p l e R s m args below meth c H locs cells slots Q (F0 m pc ls st0) := by
  have hF := z_free hD hS hA
  obtain ⟨q0, fs, he⟩ := he
  exact va_callv (va_runVN (As := As) (rest := rest) ⟨hx, hb, hml, hown, hg⟩ hM ⟨g_CN hg hc hi hl hd hRm, hg _ hin, hg _ hse⟩ ⟨g_blind, va_recv hK hP hcl he, fun U hU hW => ⟨rfl, by rw [hU], by rw [hU]; exact hP, va_K.moved hW.alike hK, hD.weaken (fun _ _ _ _ => trivial)⟩⟩ rfl hnn hsz hst (lv_room hrm) hdg hf) hS (fun q _ h => hF q h) hF (fun u t H1 locs1 ht hvm hw hB hz1 hk1 hS1 => by
    obtain ⟨hP1, -, hD1⟩ := hB
    rw [ht] at hP1
    exact kk u H1 locs1 hw hP1 (hD1.weaken (fun _ _ _ h => hF _ h)) hS1)
theorem z_SiN {own host : String} {index maxL nL lv n : Nat} {y : MethodName} {bytes : ByteArray} {rt : FieldType} {As : List Value} {Q1 : Int → ZS → Prop} (hx : p.tables.exec = Jvm.exec) (hb : c.code = cc) (hml : c.maxLocals = nL) (hg : ∀ w ∈ gw, w.before args s = true) (hown : s.vm.findClass own = some m.cls) (hK : gK D dA s) (hP : va_P D vwC (w1 σ) H) (hD : va_D A (w1 σ)) (hS : va_S A H0 H locs) (hA : ∀ q : Nat, H0.size ≤ q → A q) (hM : Met l y (gws y bytes maxL (some rt)) (gR lv 0 0) (gPre D dA As (w1 σ) H.size) (va_Qi (zQi Q1) (gAt D dA (va_A (w1 σ) H.size) w1) (va_A (w1 σ) H.size)) 0 0 (va_A (w1 σ) H.size)) (hc : Cond.code y bytes maxL (some rt) ∈ gw) (hi : Cond.initialized y.cls ∈ gw) (hl : Cond.methodLinkNest own index y host ∈ gw) (hsta : Cond.static y ∈ gw) (hd : y.cls ≠ "java/lang/invoke/MethodHandle" ∧ y.cls ≠ "java/lang/invoke/VarHandle" ∧ (parseMethodDescriptor y.desc).map (fun d => d.parameters.length) = some n) (hRm : lv + 1 ≤ R.frames ∧ 8 + (maxL + 11) + 100 * lv ≤ R.locals) (hnn : As.length = n) (hsz : ls.size = nL) (hst : st0 = As.reverse ++ rest) (hrm : (rest.map fun v => v.category).sum ≤ 8) (hdg : decode cc pc = .ok (.invokestatic index, 3)) (hf : cells ≤ R.cells ∧ slots ≤ R.slots) (kk : ∀ (v : Int) (u : ZS) (H1 : Heap) (locs1 : List Loc), Q1 v u → va_P D vwC (w1 u) H1 → va_D A (w1 u) → va_S A H0 H1 locs1 → W p l e R s m args below meth c H1 locs1 cells slots Q (F0 m (pc + 3) ls (.int (Int32.ofInt v) :: rest))) : W p l e R s m args below meth c H locs cells slots Q (F0 m pc ls st0) := by
  have hF := z_free hD hS hA
  exact va_calli (va_runSN (As := As) (rest := rest) ⟨hx, hb, hml, hown, hg⟩ hM ⟨g_CN hg hc hi hl hd hRm, hg _ hsta, trivial⟩ ⟨g_blind, fun U hU hW => ⟨rfl, by rw [hU], by rw [hU]; exact hP, va_K.moved hW.alike hK, hD.weaken (fun _ _ _ _ => trivial)⟩⟩ rfl hnn hsz hst (lv_room hrm) hdg hf) hS (fun q _ h => hF q h) hF (fun r u t H1 locs1 ht hvm hw hB hz1 hk1 hS1 => by
    obtain ⟨v, rfl, hw⟩ := hw
    obtain ⟨hP1, -, hD1⟩ := hB
    rw [ht] at hP1
    exact kk v u H1 locs1 hw hP1 (hD1.weaken (fun _ _ _ h => hF _ h)) hS1)
theorem z_iushrK {a y M : Int} (hx : p.tables.exec = Jvm.exec) (hb : c.code = cc) (j : Nat) (hy : ((Int32.ofInt y).toUInt32 &&& Int32.toUInt32 31).toNat % 32 = j) (hM : ((2 ^ j : Nat) : Int) = M) (h : 0 ≤ a ∧ a ≤ 2147483647) (hdg : decode cc pc = .ok (.iushr, 1)) (k : W p l e R s m args below meth c H locs cells slots Q (F0 m (pc + 1) ls (.int (Int32.ofInt (a / M)) :: rest))) : W p l e R s m args below meth c H locs cells slots Q (F0 m pc ls (.int (Int32.ofInt y) :: .int (Int32.ofInt a) :: rest)) := lv_iushr hx hb hdg (zn_iushr j hy hM h) k
theorem z_mmin {own : String} {index nL : Nat} {a b : Int} (hx : p.tables.exec = Jvm.exec) (hb : c.code = cc) (hml : c.maxLocals = nL) (hsz : ls.size = nL) (hg : ∀ w ∈ gw, w.before args s = true) (hown : s.vm.findClass own = some m.cls) (ha : -2147483648 ≤ a ∧ a ≤ 2147483647) (hb2 : -2147483648 ≤ b ∧ b ≤ 2147483647) (hl : Cond.methodLink own index Lib.Math.min.name ∈ gw) (hR : 1 ≤ R.frames ∧ (rest.map fun v => v.category).sum + 13 ≤ R.locals) (hf : cells ≤ R.cells ∧ slots ≤ R.slots) (hdg : decode cc pc = .ok (.invokestatic index, 3)) (kk : W p l e R s m args below meth c H locs cells slots Q (F0 m (pc + 3) ls (.int (Int32.ofInt (min a b)) :: rest))) : W p l e R s m args below meth c H locs cells slots Q (F0 m pc ls (.int (Int32.ofInt b) :: .int (Int32.ofInt a) :: rest)) := by
  refine va_mmin hx hb (hml.trans hsz.symm) hown (hg _ hl) (hg _ qMmin_s) (hg _ qM_i) (hg _ qMmin_c) hR.1 hR.2 hf.1 hf.2 hdg (g_nrm ?_ kk)
  by_cases h : b < a
  · rw [if_pos ((z_lt hb2 ha).mpr h)]; congr 1; omega
  · rw [if_neg (fun q => h ((z_lt hb2 ha).mp q))]; congr 1; omega
theorem z_mmax {own : String} {index nL : Nat} {a b : Int} (hx : p.tables.exec = Jvm.exec) (hb : c.code = cc) (hml : c.maxLocals = nL) (hsz : ls.size = nL) (hg : ∀ w ∈ gw, w.before args s = true) (hown : s.vm.findClass own = some m.cls) (ha : -2147483648 ≤ a ∧ a ≤ 2147483647) (hb2 : -2147483648 ≤ b ∧ b ≤ 2147483647) (hl : Cond.methodLink own index Lib.Math.max.name ∈ gw) (hR : 1 ≤ R.frames ∧ (rest.map fun v => v.category).sum + 13 ≤ R.locals) (hf : cells ≤ R.cells ∧ slots ≤ R.slots) (hdg : decode cc pc = .ok (.invokestatic index, 3)) (kk : W p l e R s m args below meth c H locs cells slots Q (F0 m (pc + 3) ls (.int (Int32.ofInt (max a b)) :: rest))) : W p l e R s m args below meth c H locs cells slots Q (F0 m pc ls (.int (Int32.ofInt b) :: .int (Int32.ofInt a) :: rest)) := by
  refine va_mmax hx hb (hml.trans hsz.symm) hown (hg _ hl) (hg _ qMmax_s) (hg _ qM_i) (hg _ qMmax_c) hR.1 hR.2 hf.1 hf.2 hdg (g_nrm ?_ kk)
  by_cases h : a < b
  · rw [if_pos ((z_lt ha hb2).mpr h)]; congr 1; omega
  · rw [if_neg (fun q => h ((z_lt ha hb2).mp q))]; congr 1; omega
theorem zaM_6 {g : Int} (hx : p.tables.exec = Jvm.exec) (hb : c.code = cc) (hgr : 0 ≤ g ∧ g ≤ 2) (hK : gK D dA s) (hP : va_P D vwC (zC dA ad σ) H) (hdg : decode cc pc = .ok (.arraylength, 1)) (kk : W p l e R s m args below meth c H locs cells slots Q (F0 m (pc + 1) ls (.int (Int32.ofInt 400) :: rest))) : W p l e R s m args below meth c H locs cells slots Q (F0 m pc ls (.ref (ad g 6) :: rest)) := by
  rcases (show g = 0 ∨ g = 1 ∨ g = 2 from by omega) with rfl | rfl | rfl
  · exact va_alen (v := Int32.ofInt 400) hx hb hK hP 47 0 rfl rfl rfl hdg kk
  · exact va_alen (v := Int32.ofInt 400) hx hb hK hP 60 0 rfl rfl rfl hdg kk
  · exact va_alen (v := Int32.ofInt 400) hx hb hK hP 73 0 rfl rfl rfl hdg kk
theorem z_copy {own : String} {index nL : Nat} {g sp dp n : Int} (hx : p.tables.exec = Jvm.exec) (hb : c.code = cc) (hml : c.maxLocals = nL) (hsz : ls.size = nL) (hg : ∀ w ∈ gw, w.before args s = true) (hown : s.vm.findClass own = some m.cls) (hgr : 0 ≤ g ∧ g ≤ 2) (hh : 0 ≤ sp ∧ 0 ≤ dp ∧ 0 ≤ n ∧ sp + n ≤ 400 ∧ dp + n ≤ 1200) (hK : gK D dA s) (hP : va_P D vwC (zC dA ad σ) H) (hD : va_D A (zC dA ad σ)) (hS : va_S A H0 H locs) (hl : Cond.methodLink own index arraycopyName ∈ gw) (hn : Cond.native arraycopyName ∈ gw) (hst : Cond.static arraycopyName ∈ gw) (hR : 1 ≤ R.frames ∧ (rest.map fun v => v.category).sum + (nativeFrameWords "java/lang/System" "arraycopy" 5 + 11) ≤ R.locals) (hi : Cond.initialized "java/lang/System" ∈ gw) (hdg : decode cc pc = .ok (.invokestatic index, 3))
    (kk : ∀ (H1 : Heap) (locs1 : List Loc), va_P D vwC (zC dA ad (zsF σ 17 2 (zcpy (zA σ g 6) (zA σ 17 2) sp dp n))) H1 → va_D A (zC dA ad (zsF σ 17 2 (zcpy (zA σ g 6) (zA σ 17 2) sp dp n))) → va_S A H0 H1 locs1 → W p l e R s m args below meth c H1 locs1 cells slots Q (F0 m (pc + 3) ls rest)) : W p l e R s m args below meth c H locs cells slots Q (F0 m pc ls (.int (Int32.ofInt n) :: .int (Int32.ofInt dp) :: .ref (ad 17 2) :: .int (Int32.ofInt sp) :: .ref (ad g 6) :: rest)) := by
  have c1 := z_clamp (i := sp) (n := 401) (by omega) (by decide)
  have c2 := z_clamp (i := dp) (n := 1201) (by omega) (by decide)
  have c3 := z_clamp (i := n) (n := 401) (by omega) (by decide)
  rcases (show g = 0 ∨ g = 1 ∨ g = 2 from by omega) with rfl | rfl | rfl
  · exact va_copyi hx hb (hml.trans hsz.symm) hown (hg _ hl) (hg _ hn) (hg _ hst) (hg _ hi) hK hP hD hS 47 37 0 0 rfl rfl rfl rfl rfl (z_nlt (by omega)) (z_nlt (by omega)) (z_nlt (by omega)) (by rw [c1, c3]; omega) (by rw [c2, c3]; omega) (fun _ _ => rfl) hR.1 hR.2 hdg (fun H1 locs1 hP1 hD1 hS1 => by rw [z_cpy hh] at hP1 hD1; exact kk H1 locs1 hP1 hD1 hS1)
  · exact va_copyi hx hb (hml.trans hsz.symm) hown (hg _ hl) (hg _ hn) (hg _ hst) (hg _ hi) hK hP hD hS 60 37 0 0 rfl rfl rfl rfl rfl (z_nlt (by omega)) (z_nlt (by omega)) (z_nlt (by omega)) (by rw [c1, c3]; omega) (by rw [c2, c3]; omega) (fun _ _ => rfl) hR.1 hR.2 hdg (fun H1 locs1 hP1 hD1 hS1 => by rw [z_cpy hh] at hP1 hD1; exact kk H1 locs1 hP1 hD1 hS1)
  · exact va_copyi hx hb (hml.trans hsz.symm) hown (hg _ hl) (hg _ hn) (hg _ hst) (hg _ hi) hK hP hD hS 73 37 0 0 rfl rfl rfl rfl rfl (z_nlt (by omega)) (z_nlt (by omega)) (z_nlt (by omega)) (by rw [c1, c3]; omega) (by rw [c2, c3]; omega) (fun _ _ => rfl) hR.1 hR.2 hdg (fun H1 locs1 hP1 hD1 hS1 => by rw [z_cpy hh] at hP1 hD1; exact kk H1 locs1 hP1 hD1 hS1)
end ZJDK
