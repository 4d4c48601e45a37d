/-! X: what no item has written is zero -/
theorem mB_o {d : MD} {i v q : Int} (h : q ≠ i) : (mB d i v).co q = d.co q := pu_ne h
theorem mW_o {d : MD} {i v q : Int} (h : q ≠ i) (k : q ≠ i + 1) : (mW d i v).co q = d.co q := (mB_o (d := mB d i v) k).trans (mB_o h)
theorem mW_0 {d : MD} {i : Int} (h : d.co i = 0) (k : d.co (i + 1) = 0) : mW d i 0 = d := by
  have e : zu (zu d.co i (0 % 256)) (i + 1) (0 / 256 % 256) = d.co := by
    funext j
    by_cases e1 : j = i + 1
    · rw [e1, pu_eq, k]; rfl
    · rw [pu_ne e1]
      by_cases e2 : j = i
      · rw [e2, pu_eq, h]; rfl
      · rw [pu_ne e2]
  show (zu (zu d.co i (0 % 256)) (i + 1) (0 / 256 % 256), d.2) = d
  rw [e]; rfl
theorem mNe_co {a b c g X r : Int → Int} {N : Nat} {d : MD} {i q : Int} (h : q < stS a b g X N (g i) + ofS a b g X i ∨ stS a b g X N (g i) + ofS a b g X i + 3 ≤ q) : (mNe a b c g X r N d i).co q = d.co q := by
  unfold mNe
  split
  · rfl
  · exact mW_o (by omega) (by omega)
theorem mI_co {a b c g X r : Int → Int} {N : Nat} {d : MD} {i q : Int} (hb : a i = 5 → 0 ≤ b i) (h : q < stS a b g X N (g i) + ofS a b g X i ∨ stS a b g X N (g i) + ofS a b g X i + sI a b X i ≤ q) : (mI a b c g X r N d i).co q = d.co q := by
  have s0 := sI_nn (X := X) hb
  unfold mI
  by_cases n0 : g i < 0
  · rw [if_pos n0]
  rw [if_neg n0]
  by_cases n4 : a i = 4
  · rw [if_pos n4]
    have s1 : sI a b X i = 1 := by unfold sI; rw [if_pos n4]
    exact mB_o (by omega)
  rw [if_neg n4]
  by_cases n6 : a i = 6
  · rw [if_pos n6]
    have s2 : sI a b X i = 2 := by unfold sI; rw [if_neg n4, if_neg (by omega), if_neg (by omega), if_pos (by omega)]
    exact mW_o (by omega) (by omega)
  rw [if_neg n6]
  by_cases n7 : a i = 7
  · rw [if_pos n7]
    have s2 : sI a b X i = 2 := by unfold sI; rw [if_neg n4, if_neg (by omega), if_neg (by omega), if_pos (by omega)]
    exact mW_o (by omega) (by omega)
  rw [if_neg n7]
  by_cases n8 : a i = 8
  · rw [if_pos n8]; rfl
  rw [if_neg n8]
  by_cases n9 : a i = 9
  · rw [if_pos n9]
    by_cases x0 : X i = 0
    · rw [if_pos x0]
      have s2 : sI a b X i = 2 := by unfold sI; rw [if_neg n4, if_neg (by omega), if_pos n9, if_pos x0]
      exact (mB_o (d := mB d _ _) (by omega)).trans (mB_o (by omega))
    · rw [if_neg x0]
      have s3 : sI a b X i = 3 := by unfold sI; rw [if_neg n4, if_neg (by omega), if_pos n9, if_neg x0]
      exact (mNe_co (d := mB d _ _) (by omega)).trans (mB_o (by omega))
  rw [if_neg n9]
  by_cases n10 : a i = 10
  · rw [if_pos n10]
    have s2 : sI a b X i = 2 := by unfold sI; rw [if_neg n4, if_neg (by omega), if_neg (by omega), if_pos (by omega)]
    exact (mB_o (d := mB d _ _) (by omega)).trans (mB_o (by omega))
  rw [if_neg n10]
  by_cases n11 : a i = 11
  · rw [if_pos n11]
    have s3 : sI a b X i = 3 := by unfold sI; rw [if_neg n4, if_neg (by omega), if_neg n9, if_neg (by omega), if_pos n11]
    exact (mNe_co (d := mB d _ _) (by omega)).trans (mB_o (by omega))
  rw [if_neg n11]
  by_cases n12 : a i = 12
  · rw [if_pos n12]
    have s5 : sI a b X i = 5 := by unfold sI; rw [if_neg n4, if_neg (by omega), if_neg n9, if_neg (by omega), if_neg n11, if_pos n12]
    exact (mW_o (d := mB d _ _) (by omega) (by omega)).trans (mB_o (by omega))
  rw [if_neg n12]
theorem st_s {a b g X : Int → Int} {N : Nat} {s : Int} (h : 0 ≤ s) : stS a b g X N (s + 1) = stS a b g X N s + oS a b g X s N := by
  unfold stS
  rw [show (s + 1).toNat = s.toNat + 1 by omega]
  show psum (fun s => oS a b g X s N) s.toNat + oS a b g X (s.toNat : Int) N = _
  rw [show ((s.toNat : Nat) : Int) = s by omega]
theorem st_le {a b g X : Int → Int} {N : Nat} {s t : Int} (hb : ∀ j : Nat, j < N → a j = 5 → 0 ≤ b j) (h : 0 ≤ s) (k : s < t) : stS a b g X N s + oS a b g X s N ≤ stS a b g X N t := by
  rw [← st_s h]
  unfold stS
  exact psum_mono _ (by omega) (fun j _ _ => oS_nn N hb)
theorem mZ {a b c g X r : Int → Int} {N : Nat} (hb : ∀ j : Nat, j < N → a j = 5 → 0 ≤ b j) : ∀ k : Nat, k ≤ N → ∀ s o : Int, 0 ≤ s → oS a b g X s k ≤ o → o < oS a b g X s N → (mK a b c g X r N k).co (stS a b g X N s + o) = 0
  | 0, _, _, _, _, _, _ => rfl
  | k + 1, hk, s, o, s0, o0, o1 => by
    show (mI a b c g X r N (mK a b c g X r N k) k).co _ = 0
    have e : oS a b g X s (k + 1) = oS a b g X s k + (if g k = s then sI a b X k else 0) := rfl
    have sk := sI_nn (X := X) (hb k (by omega))
    have ih := mZ (c := c) (r := r) hb k (by omega) s o s0 (by rw [e] at o0; split at o0 <;> omega) o1
    by_cases n0 : g k < 0
    · rw [mI_d (Or.inl n0)]; exact ih
    rw [mI_co (hb k (by omega)) ?_]
    · exact ih
    have fit := oS_fit (a := a) (b := b) (g := g) (X := X) (N := N) (i := k) hb (by omega) (by omega)
    have of : ofS a b g X k = oS a b g X (g k) k := by unfold ofS; rw [show ((k : Int)).toNat = k by omega]
    by_cases es : g k = s
    · rw [if_pos es] at e
      rw [of, es]
      omega
    · have on := oS_nn (g := g) (X := X) (s := s) k (fun j hj => hb j (by omega))
      rw [if_neg es] at e
      by_cases lt : g k < s
      · have := st_le (g := g) (X := X) hb (show 0 ≤ g k by omega) lt
        omega
      · have := st_le (g := g) (X := X) hb s0 (show s < g k by omega)
        omega
