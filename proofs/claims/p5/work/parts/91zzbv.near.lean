/-! X: a near fixup's name is from outside -/
def K2 (r : Int → Int) (d e : MD) (q : Int) : Prop := (q < d.nf ∧ e.fk q = d.fk q ∧ e.fn q = d.fn q) ∨ (e.fk q = 2 → r (e.fn q) = 3)
theorem mF_k {r : Int → Int} {d : MD} {k s p n q : Int} (hk : k = 2 → r n = 3) (h : q < (mF d k s p n).nf) : K2 r d (mF d k s p n) q := by
  have h' : q < d.nf + 1 := h
  by_cases e : q = d.nf
  · refine Or.inr (fun y => ?_)
    have y' : zu d.fk d.nf k q = 2 := y
    show r (zu d.fn d.nf n q) = 3
    rw [e, pu_eq] at y' ⊢
    exact hk y'
  · exact Or.inl ⟨by omega, pu_ne e, pu_ne e⟩
theorem mNe_k {a b c g X r : Int → Int} {N : Nat} {d : MD} {i q : Int} (h : q < (mNe a b c g X r N d i).nf) : K2 r d (mNe a b c g X r N d i) q := by
  unfold mNe at h ⊢
  by_cases e : r (c i) = 3
  · rw [if_pos e] at h ⊢; exact mF_k (fun _ => e) h
  · rw [if_neg e] at h ⊢; exact Or.inl ⟨h, rfl, rfl⟩
theorem mI_k {a b c g X r : Int → Int} {N : Nat} {d : MD} {i q : Int} (h : q < (mI a b c g X r N d i).nf) : K2 r d (mI a b c g X r N d i) q := by
  by_cases t : a i ≤ 3 ∨ a i = 5
  · rw [mI_n t] at h ⊢; exact Or.inl ⟨h, rfl, rfl⟩
  unfold mI at h ⊢
  by_cases n0 : g i < 0
  · rw [if_pos n0] at h ⊢; exact Or.inl ⟨h, rfl, rfl⟩
  rw [if_neg n0] at h ⊢
  by_cases n4 : a i = 4
  · rw [if_pos n4] at h ⊢; exact Or.inl ⟨h, rfl, rfl⟩
  rw [if_neg n4] at h ⊢
  by_cases n6 : a i = 6
  · rw [if_pos n6] at h ⊢; exact Or.inl ⟨h, rfl, rfl⟩
  rw [if_neg n6] at h ⊢
  by_cases n7 : a i = 7
  · rw [if_pos n7] at h ⊢
    exact mF_k (d := mW d _ _) (fun q => absurd q (by decide)) h
  rw [if_neg n7] at h ⊢
  by_cases n8 : a i = 8
  · rw [if_pos n8] at h ⊢
    exact mF_k (fun q => absurd q (by decide)) h
  rw [if_neg n8] at h ⊢
  by_cases n9 : a i = 9
  · rw [if_pos n9] at h ⊢
    by_cases x0 : X i = 0
    · rw [if_pos x0] at h ⊢; exact Or.inl ⟨h, rfl, rfl⟩
    · rw [if_neg x0] at h ⊢
      exact mNe_k (d := mB d _ _) h
  rw [if_neg n9] at h ⊢
  by_cases n10 : a i = 10
  · rw [if_pos n10] at h ⊢; exact Or.inl ⟨h, rfl, rfl⟩
  rw [if_neg n10] at h ⊢
  by_cases n11 : a i = 11
  · rw [if_pos n11] at h ⊢
    exact mNe_k (d := mB d _ _) h
  rw [if_neg n11] at h ⊢
  by_cases n12 : a i = 12
  · rw [if_pos n12] at h ⊢
    rcases mF_k (r := r) (fun q => absurd q (by decide)) h with ⟨h1, h2, h3⟩ | h2
    · rcases mF_k (r := r) (d := mW (mB d _ _) _ _) (fun q => absurd q (by decide)) h1 with ⟨h4, h5, h6⟩ | h5
      · exact Or.inl ⟨h4, h2.trans h5, h3.trans h6⟩
      · refine Or.inr (fun y => ?_)
        rw [h3]
        exact h5 (h2.symm.trans y)
    · exact Or.inr h2
  rw [if_neg n12] at h ⊢; exact Or.inl ⟨h, rfl, rfl⟩
theorem mK_k {a b c g X r : Int → Int} {N : Nat} : ∀ (k : Nat) (q : Int), 0 ≤ q → q < (mK a b c g X r N k).nf → (mK a b c g X r N k).fk q = 2 → r ((mK a b c g X r N k).fn q) = 3
  | 0, q, q0, q1, _ => absurd (show q < 0 from q1) (by omega)
  | k + 1, q, q0, q1, y => by
    have y' : (mI a b c g X r N (mK a b c g X r N k) k).fk q = 2 := y
    show r ((mI a b c g X r N (mK a b c g X r N k) k).fn q) = 3
    rcases mI_k (show q < (mI a b c g X r N (mK a b c g X r N k) k).nf from q1) with ⟨h1, h2, h3⟩ | h2
    · rw [h3]; exact mK_k k q q0 h1 (by rw [← h2]; exact y')
    · exact h2 y'
