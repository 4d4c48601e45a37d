theorem g_u0 (k : Nat) : upd (fun _ => 0) k 0 = fun _ => 0 := by
  funext j
  unfold upd
  by_cases h : j = k
  · rw [if_pos h]
  · rw [if_neg h]
theorem g_nz : vp_nar .boolean 0 = 0 := by decide
theorem g_u0z (k : Nat) : upd (fun _ => 0) k (vp_nar .boolean 0) = fun _ => 0 := by rw [g_nz]; exact g_u0 k
theorem gM_0 (a b c : Nat) : va_rf (gM a b c (0 : Int32).toNatClampNeg) = .ref a := by
  have e0 : (0 : Int32).toNatClampNeg = 0 := by decide
  rw [e0]; rfl
theorem gM_1 (a b c : Nat) : va_rf (gM a b c (1 : Int32).toNatClampNeg) = .ref b := by
  have e0 : (1 : Int32).toNatClampNeg = 1 := by decide
  rw [e0]; rfl
theorem gM_2 (a b c : Nat) : va_rf (gM a b c (2 : Int32).toNatClampNeg) = .ref c := by
  have e0 : (2 : Int32).toNatClampNeg = 2 := by decide
  rw [e0]; rfl
def gIn (lo hi : Int) (x : Int32) : Prop := lo ≤ x.toInt ∧ x.toInt ≤ hi
theorem gb_lt_r {x c : Int32} {k : Int} (hc : c.toInt = k) (h : x < c) : x.toInt < k := by rw [← hc]; exact Int32.lt_iff_toInt_lt.mp h
theorem gb_nlt_r {x c : Int32} {k : Int} (hc : c.toInt = k) (h : ¬ x < c) : k ≤ x.toInt := by rw [← hc]; rw [Int32.lt_iff_toInt_lt] at h; omega
theorem gb_le_r {x c : Int32} {k : Int} (hc : c.toInt = k) (h : x ≤ c) : x.toInt ≤ k := by rw [← hc]; exact Int32.le_iff_toInt_le.mp h
theorem gb_nle_r {x c : Int32} {k : Int} (hc : c.toInt = k) (h : ¬ x ≤ c) : k < x.toInt := by rw [← hc]; rw [Int32.le_iff_toInt_le] at h; omega
theorem gb_lt_l {x c : Int32} {k : Int} (hc : c.toInt = k) (h : c < x) : k < x.toInt := by rw [← hc]; exact Int32.lt_iff_toInt_lt.mp h
theorem gb_nlt_l {x c : Int32} {k : Int} (hc : c.toInt = k) (h : ¬ c < x) : x.toInt ≤ k := by rw [← hc]; rw [Int32.lt_iff_toInt_lt] at h; omega
theorem gb_le_l {x c : Int32} {k : Int} (hc : c.toInt = k) (h : c ≤ x) : k ≤ x.toInt := by rw [← hc]; exact Int32.le_iff_toInt_le.mp h
theorem gb_nle_l {x c : Int32} {k : Int} (hc : c.toInt = k) (h : ¬ c ≤ x) : x.toInt < k := by rw [← hc]; rw [Int32.le_iff_toInt_le] at h; omega
theorem gb_eq_r {x c : Int32} {k : Int} (hc : c.toInt = k) (h : x = c) : x.toInt = k := by rw [h, hc]
theorem gb_neq_r {x c : Int32} {k : Int} (hc : c.toInt = k) (h : ¬ x = c) : x.toInt ≠ k := lv_neT h hc
theorem gb_ne_r {x c : Int32} {k : Int} (hc : c.toInt = k) (h : ¬ x = c) : x.toInt ≠ k := lv_neT h hc
theorem gb_nne_r {x c : Int32} {k : Int} (hc : c.toInt = k) (h : ¬ ¬ x = c) : x.toInt = k := by rw [Classical.not_not.mp h, hc]
theorem g_eqI {x c : Int32} {k : Int} (hc : c.toInt = k) (h : x.toInt = k) : x = c := Int32.toInt_inj.mp (by rw [h, hc])
theorem g_in3 {x : Int32} (h0 : 0 ≤ x.toInt) (h1 : x.toInt < 3) : x = 0 ∨ x = 1 ∨ x = 2 := by
  have h : x.toInt = 0 ∨ x.toInt = 1 ∨ x.toInt = 2 := by omega
  rcases h with h | h | h
  · exact Or.inl (g_eqI (by decide) h)
  · exact Or.inr (Or.inl (g_eqI (by decide) h))
  · exact Or.inr (Or.inr (g_eqI (by decide) h))
section GT
variable {p : Program} {l : Launch} {e : Env} {R : Room} {s : State} {m : MethodId} {args : Array Value} {below : List Frame} {meth : Method} {c : Code} {H : Heap} {locs : List Loc} {cells slots : Nat} {Q : State → Prop}
variable {pc : Nat} {ls : Array Slot} {rest : List Value}
theorem g_topv {v w : Value} (h : v = w) (k : W p l e R s m args below meth c H locs cells slots Q (F0 m pc ls (w :: rest))) : W p l e R s m args below meth c H locs cells slots Q (F0 m pc ls (v :: rest)) := h ▸ k
end GT
