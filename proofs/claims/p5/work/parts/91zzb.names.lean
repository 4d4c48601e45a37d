/-! X: names of items and of fixups -/
theorem uOK_at {a b c : Int → Int} {N : Nat} (ht : ∀ j : Nat, j < N → 0 ≤ a j ∧ a j ≤ 12) (hok : yOK (yF a b c N)) : ∀ j : Int, 0 ≤ j → j < N → uOK (yF a b c N) (iK (a j)) (c j) (gI a b c j) := by
  have ok := (yF_ok (a := a) (b := b) (c := c) (yF a b c N) N ht).2.mp hok.2
  intro j j0 j1
  have := ok j.toNat (by omega)
  rw [show ((j.toNat : Nat) : Int) = j by omega] at this
  unfold gI
  rw [show (j + 1).toNat = j.toNat + 1 by omega]
  exact this
theorem so_ne {a b c : Int → Int} {N : Nat} (ht : ∀ j : Nat, j < N → 0 ≤ a j ∧ a j ≤ 12) (hok : yOK (yF a b c N)) {j : Int} (j0 : 0 ≤ j) (j1 : j < N) (t : 7 ≤ a j) : (yF a b c N).so (c j) ≠ 0 := by
  obtain ⟨u0, u1, u2, u3, u4⟩ := uOK_at ht hok j j0 j1
  have h12 := (ht j.toNat (by omega)).2
  rw [show ((j.toNat : Nat) : Int) = j by omega] at h12
  rcases (by omega : (a j = 7 ∨ a j = 8) ∨ (a j = 9 ∨ a j = 11) ∨ a j = 10 ∨ a j = 12) with q | q | q | q
  · exact u1 (by unfold iK; rw [if_neg (by omega), if_pos q])
  · rcases u3 (by unfold iK; rw [if_neg (by omega), if_neg (by omega), if_pos q]) with w | w
    · omega
    · omega
  · have := u2 (by unfold iK; rw [if_neg (by omega), if_neg (by omega), if_neg (by omega), if_pos q])
    omega
  · have := u4 (by unfold iK; rw [if_neg (by omega), if_neg (by omega), if_neg (by omega), if_neg (by omega), if_pos q])
    omega
theorem HJc_of {a b c : Int → Int} {N : Nat} (ht : ∀ j : Nat, j < N → 0 ≤ a j ∧ a j ≤ 12) (hok : yOK (yF a b c N)) (hg : ∀ j : Int, 0 ≤ j → j < N → (yF a b c N).so (c j) = 2 → (yF a b c N).sg (c j) = gI a b c j → 0 ≤ gI a b c j) : ∀ j : Int, 0 ≤ j → j < N → a j = 11 → (yF a b c N).so (c j) = 3 ∨ (0 ≤ lI a c (c j) N ∧ gI a b c (lI a c (c j) N) = gI a b c j ∧ 0 ≤ gI a b c j) := by
  intro j j0 j1 t
  have so := yF_so N ht hok.1
  rcases (uOK_at ht hok j j0 j1).2.2.2.1 (by rw [t]; rfl) with ⟨s2, sg⟩ | s3
  · have w := so (c j)
    exact Or.inr ⟨w.1.mpr s2, by rw [← w.2 s2]; exact sg, hg j j0 j1 s2 sg⟩
  · exact Or.inl s3
theorem mF_fn {d : MD} {k s p n q : Int} (h : q < (mF d k s p n).nf) : (q < d.nf ∧ (mF d k s p n).fn q = d.fn q) ∨ (mF d k s p n).fn q = n := by
  have h' : q < d.nf + 1 := h
  by_cases e : q = d.nf
  · exact Or.inr (by show zu d.fn d.nf n q = n; rw [e, pu_eq])
  · exact Or.inl ⟨by omega, pu_ne e⟩
theorem mNe_fn {a b c g X r : Int → Int} {N : Nat} {d : MD} {i q : Int} (h : q < (mNe a b c g X r N d i).nf) : (q < d.nf ∧ (mNe a b c g X r N d i).fn q = d.fn q) ∨ (mNe a b c g X r N d i).fn q = c i := by
  unfold mNe at h ⊢
  by_cases e : r (c i) = 3
  · rw [if_pos e] at h ⊢; exact mF_fn h
  · rw [if_neg e] at h ⊢; exact Or.inl ⟨h, rfl⟩
theorem mI_fn {a b c g X r : Int → Int} {N : Nat} {d : MD} {i q : Int} (h : q < (mI a b c g X r N d i).nf) : (q < d.nf ∧ (mI a b c g X r N d i).fn q = d.fn q) ∨ (7 ≤ a i ∧ (mI a b c g X r N d i).fn q = c i) := by
  by_cases t : a i ≤ 3 ∨ a i = 5
  · rw [mI_n t] at h ⊢; exact Or.inl ⟨h, rfl⟩
  have up : ∀ e : MD, (q < d.nf ∧ e.fn q = d.fn q) ∨ e.fn q = c i → 7 ≤ a i → (q < d.nf ∧ e.fn q = d.fn q) ∨ (7 ≤ a i ∧ e.fn q = c i) := fun e h t => h.imp id (fun w => ⟨t, w⟩)
  unfold mI at h ⊢
  by_cases n0 : g i < 0
  · rw [if_pos n0] at h ⊢; exact Or.inl ⟨h, rfl⟩
  rw [if_neg n0] at h ⊢
  by_cases n4 : a i = 4
  · rw [if_pos n4] at h ⊢; exact Or.inl ⟨h, rfl⟩
  rw [if_neg n4] at h ⊢
  by_cases n6 : a i = 6
  · rw [if_pos n6] at h ⊢; exact Or.inl ⟨h, rfl⟩
  rw [if_neg n6] at h ⊢
  by_cases n7 : a i = 7
  · rw [if_pos n7] at h ⊢
    exact up _ (mF_fn h) (by omega)
  rw [if_neg n7] at h ⊢
  by_cases n8 : a i = 8
  · rw [if_pos n8] at h ⊢
    exact up _ (mF_fn h) (by omega)
  rw [if_neg n8] at h ⊢
  by_cases n9 : a i = 9
  · rw [if_pos n9] at h ⊢
    by_cases x0 : X i = 0
    · rw [if_pos x0] at h ⊢; exact Or.inl ⟨h, rfl⟩
    · rw [if_neg x0] at h ⊢
      exact up _ (mNe_fn (d := mB d _ _) h) (by omega)
  rw [if_neg n9] at h ⊢
  by_cases n10 : a i = 10
  · rw [if_pos n10] at h ⊢; exact Or.inl ⟨h, rfl⟩
  rw [if_neg n10] at h ⊢
  by_cases n11 : a i = 11
  · rw [if_pos n11] at h ⊢
    exact up _ (mNe_fn (d := mB d _ _) h) (by omega)
  rw [if_neg n11] at h ⊢
  by_cases n12 : a i = 12
  · rw [if_pos n12] at h ⊢
    refine up _ ?_ (by omega)
    rcases mF_fn h with ⟨h1, h2⟩ | h2
    · rcases mF_fn (d := mW (mB d _ _) _ _) h1 with ⟨h3, h4⟩ | h4
      · exact Or.inl ⟨h3, h2.trans h4⟩
      · exact Or.inr (h2.trans h4)
    · exact Or.inr h2
  rw [if_neg n12] at h ⊢; exact Or.inl ⟨h, rfl⟩
theorem mK_fn {a b c g X r : Int → Int} {N : Nat} : ∀ (k : Nat) (q : Int), 0 ≤ q → q < (mK a b c g X r N k).nf → ∃ i : Int, (0 ≤ i ∧ i < k) ∧ 7 ≤ a i ∧ (mK a b c g X r N k).fn q = c i
  | 0, q, q0, q1 => absurd (show q < 0 from q1) (by omega)
  | k + 1, q, q0, q1 => by
    rcases mI_fn (show q < (mI a b c g X r N (mK a b c g X r N k) k).nf from q1) with ⟨h1, h2⟩ | ⟨h1, h2⟩
    · obtain ⟨i, i1, i2, i3⟩ := mK_fn k q q0 h1
      exact ⟨i, by omega, i2, h2.trans i3⟩
    · exact ⟨k, by omega, h1, h2⟩
