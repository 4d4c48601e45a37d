/-! X: labels and jumps among the pieces -/
theorem yF_so {a b c : Int → Int} : ∀ k : Nat, (∀ j : Nat, j < k → 0 ≤ a j ∧ a j ≤ 12) → ¬ (yF a b c k).bad → ∀ n : Int, (0 ≤ lI a c n k ↔ (yF a b c k).so n = 2) ∧ ((yF a b c k).so n = 2 → (yF a b c k).sg n = gI a b c (lI a c n k))
  | 0, _, _ => fun n => ⟨⟨fun q => absurd (show (0 : Int) ≤ -1 from q) (by decide), fun q => absurd (show (0 : Int) = 2 from q) (by decide)⟩, fun q => absurd (show (0 : Int) = 2 from q) (by decide)⟩
  | k + 1, h, nb => by
    have hk := h k (by omega)
    have e : yF a b c (k + 1) = yI (yF a b c k) (a k) (b k) (c k) := rfl
    have yb := yI_bad (d := yF a b c k) (t := a k) (v := b k) (n := c k) hk.1 hk.2 (by rw [← e]; exact nb)
    have ih := yF_so k (fun j hj => h j (by omega)) yb.1
    have eg : gI a b c k = (yI (yF a b c k) (a k) (b k) (c k)).cur := by
      unfold gI
      rw [show ((k : Int) + 1).toNat = k + 1 by omega]
      rfl
    intro n
    have el : lI a c n (k + 1) = if a k = 1 ∧ c k = n then (k : Int) else lI a c n k := rfl
    have ihn := ih n
    rw [e, el]
    have hc : a k = 0 ∨ a k = 1 ∨ a k = 3 ∨ (a k ≠ 0 ∧ a k ≠ 1 ∧ a k ≠ 3) := by omega
    rcases hc with t | t | t | ⟨t0, t1, t3⟩
    · rw [t, if_neg (fun z => absurd z.1 (by decide)), show yI (yF a b c k) 0 (b k) (c k) = ySeg (yF a b c k) (c k) (b k) from rfl, ySeg_eq]
      have nb' := nb
      rw [e, t, show yI (yF a b c k) 0 (b k) (c k) = ySeg (yF a b c k) (c k) (b k) from rfl, ySeg_eq] at nb'
      split at nb'
      · exact absurd trivial nb'
      · rename_i q1
        rw [if_neg q1]
        split at nb'
        · rename_i q2
          rw [if_pos q2]
          show (0 ≤ lI a c n k ↔ zu (yF a b c k).so (c k) 1 n = 2) ∧ (zu (yF a b c k).so (c k) 1 n = 2 → zu (yF a b c k).sg (c k) (yF a b c k).ns n = gI a b c (lI a c n k))
          by_cases en : n = c k
          · rw [en, pu_eq]
            rw [en] at ihn
            exact ⟨⟨fun q => by have := ihn.1.mp q; omega, fun q => absurd q (by decide)⟩, fun q => absurd q (by decide)⟩
          · rw [pu_ne en, pu_ne en]; exact ihn
        · rename_i q2
          rw [if_neg q2]
          exact ihn
    · have s0 := yb.2.1 t
      have ec : gI a b c k = (yF a b c k).cur := by
        rw [eg, t, show yI (yF a b c k) 1 (b k) (c k) = yLab (yF a b c k) (c k) from rfl]
        exact (yLab_u _ _).2
      rw [t, show yI (yF a b c k) 1 (b k) (c k) = yLab (yF a b c k) (c k) from rfl, yLab_eq, if_pos s0]
      show (0 ≤ (if (1 : Int) = 1 ∧ c k = n then (k : Int) else lI a c n k) ↔ zu (yF a b c k).so (c k) 2 n = 2) ∧ (zu (yF a b c k).so (c k) 2 n = 2 → zu (yF a b c k).sg (c k) (yF a b c k).cur n = gI a b c (if (1 : Int) = 1 ∧ c k = n then (k : Int) else lI a c n k))
      by_cases en : n = c k
      · rw [en, pu_eq, pu_eq, if_pos ⟨rfl, rfl⟩]
        exact ⟨⟨fun _ => rfl, fun _ => by omega⟩, fun _ => ec.symm⟩
      · rw [pu_ne en, pu_ne en, if_neg (fun z => en z.2.symm)]; exact ihn
    · have s0 := yb.2.2 t
      rw [t, if_neg (fun z => absurd z.1 (by decide)), show yI (yF a b c k) 3 (b k) (c k) = yExt (yF a b c k) (c k) from rfl, yExt_eq, if_pos s0]
      show (0 ≤ lI a c n k ↔ zu (yF a b c k).so (c k) 3 n = 2) ∧ (zu (yF a b c k).so (c k) 3 n = 2 → (yF a b c k).sg n = gI a b c (lI a c n k))
      by_cases en : n = c k
      · rw [en, pu_eq]
        rw [en] at ihn
        exact ⟨⟨fun q => by have := ihn.1.mp q; omega, fun q => absurd q (by decide)⟩, fun q => absurd q (by decide)⟩
      · rw [pu_ne en]; exact ihn
    · have y := (yI_o (d := yF a b c k) (t := a k) (v := b k) (n := c k) hk.1 hk.2 t0 t1 t3).1
      rw [if_neg (fun z => t1 z.1)]
      unfold YD.so YD.sg at ihn ⊢
      rw [y]; exact ihn
/-- the piece of a label, a jump, a branch -/
def kI (t : Int) : Int := if t = 1 then 7 else if t = 9 then 4 else 5
theorem yF_fw {a b c : Int → Int} : ∀ k : Nat, (∀ j : Nat, j < k → 0 ≤ a j ∧ a j ≤ 12) → ¬ (yF a b c k).bad → ∀ j : Nat, j < k → (a j = 1 ∨ a j = 9 ∨ a j = 10) → PI a b c j < (yF a b c k).np ∧ (yF a b c k).pk (PI a b c j) = kI (a j) ∧ (yF a b c k).pa (PI a b c j) = c j ∧ (yF a b c k).ps (PI a b c j) = gI a b c j
  | 0, _, _ => fun j hj => absurd hj (Nat.not_lt_zero j)
  | k + 1, h, nb => by
    have hk := h k (by omega)
    have e : yF a b c (k + 1) = yI (yF a b c k) (a k) (b k) (c k) := rfl
    have yb := yI_bad (d := yF a b c k) (t := a k) (v := b k) (n := c k) hk.1 hk.2 (by rw [← e]; exact nb)
    have ih := yF_fw k (fun j hj => h j (by omega)) yb.1
    have eg : gI a b c k = (yI (yF a b c k) (a k) (b k) (c k)).cur := by
      unfold gI
      rw [show ((k : Int) + 1).toNat = k + 1 by omega]
      rfl
    have ep : PI a b c k = (yF a b c k).np := by unfold PI; rw [show ((k : Int)).toNat = k by omega]
    have pre := yI_pre (yF a b c k) (a k) (b k) (c k) hk.1 hk.2
    intro j hj t
    by_cases ej : j = k
    · rw [ej] at t ⊢
      rw [e, eg, ep]
      rcases t with t | t | t
      · rw [t, show yI (yF a b c k) 1 (b k) (c k) = yLab (yF a b c k) (c k) from rfl, yLab_eq, if_pos (yb.2.1 t)]
        exact ⟨show (yF a b c k).np < (yF a b c k).np + 1 by omega, pu_eq, pu_eq, pu_eq⟩
      · rw [t]
        exact ⟨show (yF a b c k).np < (yF a b c k).np + 1 by omega, pu_eq, pu_eq, pu_eq⟩
      · rw [t]
        exact ⟨show (yF a b c k).np < (yF a b c k).np + 1 by omega, pu_eq, pu_eq, pu_eq⟩
    · obtain ⟨x1, x2, x3, x4⟩ := ih j (by omega) t
      obtain ⟨y1, y2, y3, y4⟩ := pre.2 (PI a b c j) x1
      have p1 := pre.1
      rw [e]
      exact ⟨by omega, y1.trans x2, y2.trans x3, y4.trans x4⟩
theorem yF_bw {a b c : Int → Int} : ∀ k : Nat, (∀ j : Nat, j < k → 0 ≤ a j ∧ a j ≤ 12) → ∀ p : Int, 0 ≤ p → p < (yF a b c k).np → ((yF a b c k).pk p = 4 ∨ (yF a b c k).pk p = 5) → ∃ j : Nat, j < k ∧ ((a j = 9 ∧ (yF a b c k).pk p = 4) ∨ (a j = 10 ∧ (yF a b c k).pk p = 5)) ∧ p = PI a b c j
  | 0, _ => fun p p0 p1 => by have p1' : p < 0 := p1; omega
  | k + 1, h => by
    have hk := h k (by omega)
    have e : yF a b c (k + 1) = yI (yF a b c k) (a k) (b k) (c k) := rfl
    have ih := yF_bw (a := a) (b := b) (c := c) k (fun j hj => h j (by omega))
    have ep : PI a b c k = (yF a b c k).np := by unfold PI; rw [show ((k : Int)).toNat = k by omega]
    have pre := yI_pre (yF a b c k) (a k) (b k) (c k) hk.1 hk.2
    intro p p0 p1 t
    by_cases q : p < (yF a b c k).np
    · obtain ⟨y1, -⟩ := pre.2 p q
      rw [← e] at y1
      rw [y1] at t ⊢
      obtain ⟨j, j1, j2, j3⟩ := ih p p0 q t
      exact ⟨j, by omega, j2, j3⟩
    · rw [e] at p1 t ⊢
      refine ⟨k, by omega, ?_⟩
      rw [ep]
      clear ih pre ep e
      generalize yF a b c k = d at *
      generalize a k = t' at *
      generalize b k = v at *
      generalize c k = n at *
      have hc : t' = 0 ∨ t' = 1 ∨ t' = 3 ∨ t' = 2 ∨ t' = 4 ∨ t' = 5 ∨ t' = 6 ∨ t' = 7 ∨ t' = 8 ∨ t' = 9 ∨ t' = 10 ∨ t' = 11 ∨ t' = 12 := by omega
      have one : ∀ (d' : YD) (x y z : Int), d'.np = d.np → p < (yP d' x y z).np → p = d.np ∧ (yP d' x y z).pk p = x := by
        intro d' x y z en hp
        have hp' : p < d'.np + 1 := hp
        have pe : p = d.np := by omega
        refine ⟨pe, ?_⟩
        show zu d'.pk d'.np x p = x
        rw [pe, ← en, pu_eq]
      have np0 : ∀ d' : YD, d'.2.2.2 = d.2.2.2 → d'.np = d.np := fun d' k => by unfold YD.np; rw [k]
      rcases hc with rfl | rfl | rfl | rfl | rfl | rfl | rfl | rfl | rfl | rfl | rfl | rfl | rfl
      · rw [show yI d 0 v n = ySeg d n v from rfl, np0 _ (ySeg_p d n v)] at p1; omega
      · rw [show yI d 1 v n = yLab d n from rfl, yLab_eq] at p1 t
        by_cases s0 : d.so n = 0
        · rw [if_pos s0] at p1 t
          have := one (yLn d n) 7 n 0 rfl p1
          omega
        · rw [if_neg s0, np0 (yB d) rfl] at p1; omega
      · rw [show yI d 3 v n = yExt d n from rfl, np0 _ (yExt_p d n)] at p1; omega
      · exact absurd p1 q
      · have := one d 0 v 0 rfl p1
        have t2 : (yP d 0 v 0).pk p = 4 ∨ (yP d 0 v 0).pk p = 5 := t
        omega
      · have := one d 8 v 0 rfl p1
        have t2 : (yP d 8 v 0).pk p = 4 ∨ (yP d 8 v 0).pk p = 5 := t
        omega
      · have := one d 1 v 0 rfl p1
        have t2 : (yP d 1 v 0).pk p = 4 ∨ (yP d 1 v 0).pk p = 5 := t
        omega
      · have := one (yU d 1 n) 2 n v rfl p1
        have t2 : (yP (yU d 1 n) 2 n v).pk p = 4 ∨ (yP (yU d 1 n) 2 n v).pk p = 5 := t
        omega
      · have := one (yU d 1 n) 3 n 0 rfl p1
        have t2 : (yP (yU d 1 n) 3 n 0).pk p = 4 ∨ (yP (yU d 1 n) 3 n 0).pk p = 5 := t
        omega
      · have := one (yU d 3 n) 4 n 0 rfl p1
        exact ⟨Or.inl ⟨rfl, this.2⟩, this.1⟩
      · have := one (yU d 2 n) 5 n v rfl p1
        exact ⟨Or.inr ⟨rfl, this.2⟩, this.1⟩
      · have := one (yU d 3 n) 6 n 0 rfl p1
        have t2 : (yP (yU d 3 n) 6 n 0).pk p = 4 ∨ (yP (yU d 3 n) 6 n 0).pk p = 5 := t
        omega
      · exfalso
        have p2 : p < d.np + 1 + 1 + 1 := p1
        have t2 : zu (zu (zu d.pk d.np 0) (d.np + 1) 2) (d.np + 1 + 1) 3 p = 4 ∨ zu (zu (zu d.pk d.np 0) (d.np + 1) 2) (d.np + 1 + 1) 3 p = 5 := t
        by_cases c1 : p = d.np + 1 + 1
        · rw [c1, pu_eq] at t2; omega
        · rw [pu_ne c1] at t2
          by_cases c2 : p = d.np + 1
          · rw [c2, pu_eq] at t2; omega
          · rw [pu_ne c2, show p = d.np by omega, pu_eq] at t2; omega
