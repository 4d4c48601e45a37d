/-! X: publics among uses and items -/
theorem iK_0 {t : Int} : iK t = 0 ↔ t = 2 := by
  unfold iK
  constructor
  · intro h
    by_cases e : t = 2
    · exact e
    · rw [if_neg e] at h
      split at h
      · exact absurd h (by decide)
      · split at h
        · exact absurd h (by decide)
        · split at h
          · exact absurd h (by decide)
          · split at h
            · exact absurd h (by decide)
            · exact absurd h (by decide)
  · intro e; rw [if_pos e]
theorem yF_pub {a b c : Int → Int} : ∀ k : Nat, (∀ j : Nat, j < k → 0 ≤ a j ∧ a j ≤ 12) → (∀ u : Int, 0 ≤ u → u < (yF a b c k).u.nu → (yF a b c k).u.uk u = 0 → ∃ j : Int, (0 ≤ j ∧ j < k) ∧ a j = 2 ∧ c j = (yF a b c k).u.un u) ∧ (∀ j : Nat, j < k → a j = 2 → ∃ u : Int, (0 ≤ u ∧ u < (yF a b c k).u.nu) ∧ (yF a b c k).u.uk u = 0 ∧ (yF a b c k).u.un u = c j)
  | 0, _ => ⟨fun u u0 u1 => absurd (show u < 0 from u1) (by omega), fun j hj => absurd hj (Nat.not_lt_zero j)⟩
  | k + 1, ht => by
    obtain ⟨h1, h2⟩ := yF_pub (a := a) (b := b) (c := c) k (fun j hj => ht j (by omega))
    have n0 := (yF_ok (a := a) (b := b) (c := c) yD0 k (fun j hj => ht j (by omega))).1
    have hk := ht k (by omega)
    have e : yF a b c (k + 1) = yI (yF a b c k) (a k) (b k) (c k) := rfl
    have y := yI_u (d := yF a b c k) (t := a k) (v := b k) (n := c k) hk.1 hk.2
    by_cases q : iK (a k) < 0
    · have eu := y.1 q
      rw [← e] at eu
      rw [eu]
      refine ⟨fun u u0 u1 uz => ?_, fun j hj t => ?_⟩
      · obtain ⟨j, j1, j2⟩ := h1 u u0 u1 uz
        exact ⟨j, by omega, j2⟩
      · by_cases ej : j = k
        · rw [ej] at t
          have := iK_0.mpr t
          omega
        · exact h2 j (by omega) t
    · have eu := y.2.1 (by omega)
      rw [← e] at eu
      rw [eu]
      refine ⟨fun u u0 u1 uz => ?_, fun j hj t => ?_⟩
      · have u1' : u < (yF a b c k).u.nu + 1 := u1
        have uz' : zu (yF a b c k).u.uk (yF a b c k).u.nu (iK (a k)) u = 0 := uz
        show ∃ j : Int, (0 ≤ j ∧ j < ((k + 1 : Nat) : Int)) ∧ a j = 2 ∧ c j = zu (yF a b c k).u.un (yF a b c k).u.nu (c k) u
        by_cases ej : u = (yF a b c k).u.nu
        · rw [ej, pu_eq] at uz'
          exact ⟨k, by omega, iK_0.mp uz', by rw [ej, pu_eq]⟩
        · rw [pu_ne ej] at uz'
          obtain ⟨j, j1, j2, j3⟩ := h1 u u0 (by omega) uz'
          exact ⟨j, by omega, j2, by rw [pu_ne ej]; exact j3⟩
      · show ∃ u : Int, (0 ≤ u ∧ u < (yF a b c k).u.nu + 1) ∧ zu (yF a b c k).u.uk (yF a b c k).u.nu (iK (a k)) u = 0 ∧ zu (yF a b c k).u.un (yF a b c k).u.nu (c k) u = c j
        by_cases ej : j = k
        · rw [ej] at t ⊢
          exact ⟨(yF a b c k).u.nu, by omega, by rw [pu_eq]; exact iK_0.mpr t, by rw [pu_eq]⟩
        · obtain ⟨u, u1, u2, u3⟩ := h2 j (by omega) t
          exact ⟨u, by omega, by rw [pu_ne (by omega)]; exact u2, by rw [pu_ne (by omega)]; exact u3⟩
