/-! X: sizes, offsets, jumps that must be near -/
/-- how many bytes an item has; X: the jumps that are near -/
def sI (a b X : Int → Int) (i : Int) : Int := if a i = 4 then 1 else if a i = 5 then b i else if a i = 9 then (if X i = 0 then 2 else 3) else if a i = 6 ∨ a i = 7 ∨ a i = 8 ∨ a i = 10 then 2 else if a i = 11 then 3 else if a i = 12 then 5 else 0
/-- the bytes of segment s before item k -/
def oS (a b g X : Int → Int) (s : Int) : Nat → Int
  | 0 => 0
  | k + 1 => oS a b g X s k + (if g k = s then sI a b X k else 0)
/-- the last label n before item k -/
def lI (a c : Int → Int) (n : Int) : Nat → Int
  | 0 => -1
  | k + 1 => if a k = 1 ∧ c k = n then (k : Int) else lI a c n k
theorem lI_bd {a c : Int → Int} {n : Int} : ∀ k : Nat, lI a c n k = -1 ∨ (0 ≤ lI a c n k ∧ lI a c n k < k ∧ a (lI a c n k) = 1 ∧ c (lI a c n k) = n)
  | 0 => Or.inl rfl
  | k + 1 => by
    show (if a k = 1 ∧ c k = n then (k : Int) else lI a c n k) = -1 ∨ (0 ≤ (if a k = 1 ∧ c k = n then (k : Int) else lI a c n k) ∧ (if a k = 1 ∧ c k = n then (k : Int) else lI a c n k) < ((k + 1 : Nat) : Int) ∧ a (if a k = 1 ∧ c k = n then (k : Int) else lI a c n k) = 1 ∧ c (if a k = 1 ∧ c k = n then (k : Int) else lI a c n k) = n)
    split
    · rename_i h
      exact Or.inr ⟨by omega, by omega, h.1, h.2⟩
    · rcases lI_bd (a := a) (c := c) (n := n) k with q | q
      · exact Or.inl q
      · exact Or.inr ⟨q.1, by omega, q.2.2.1, q.2.2.2⟩
theorem sI_nn {a b X : Int → Int} {i : Int} (h : a i = 5 → 0 ≤ b i) : 0 ≤ sI a b X i := by
  unfold sI
  split
  · decide
  · split
    · rename_i e; exact h e
    · split
      · split <;> decide
      · split
        · decide
        · split
          · decide
          · split <;> decide
theorem sI_mo {a b X Y : Int → Int} {i : Int} (h : Y i = 0 → X i = 0) : sI a b X i ≤ sI a b Y i := by
  unfold sI
  split
  · exact Int.le_refl _
  · split
    · exact Int.le_refl _
    · split
      · by_cases q : Y i = 0
        · rw [if_pos q, if_pos (h q)]; exact Int.le_refl _
        · rw [if_neg q]; split <;> decide
      · exact Int.le_refl _
theorem oS_mo {a b g X Y : Int → Int} {s : Int} {m : Nat} : ∀ k : Nat, m ≤ k → (∀ j : Nat, j < k → a j = 5 → 0 ≤ b j) → (∀ j : Nat, j < k → Y j = 0 → X j = 0) → 0 ≤ oS a b g X s k - oS a b g X s m ∧ oS a b g X s k - oS a b g X s m ≤ oS a b g Y s k - oS a b g Y s m
  | 0, hm, _, _ => by
    have : m = 0 := by omega
    rw [this]; omega
  | k + 1, hm, hb, hx => by
    by_cases e : m = k + 1
    · rw [e]; omega
    · obtain ⟨h1, h2⟩ := oS_mo (a := a) (b := b) (g := g) (X := X) (Y := Y) (s := s) k (m := m) (by omega) (fun j hj => hb j (by omega)) (fun j hj => hx j (by omega))
      have h3 := sI_nn (a := a) (b := b) (X := X) (i := k) (hb k (by omega))
      have h4 := sI_mo (a := a) (b := b) (X := X) (Y := Y) (i := k) (hx k (by omega))
      show 0 ≤ oS a b g X s k + (if g k = s then sI a b X k else 0) - oS a b g X s m ∧ oS a b g X s k + (if g k = s then sI a b X k else 0) - oS a b g X s m ≤ oS a b g Y s k + (if g k = s then sI a b Y k else 0) - oS a b g Y s m
      split <;> omega
theorem sI_cg {a b X Y : Int → Int} {i : Int} (h : a i = 9 → (X i = 0 ↔ Y i = 0)) : sI a b X i = sI a b Y i := by
  unfold sI
  split
  · rfl
  · split
    · rfl
    · split
      · rename_i e
        by_cases q : X i = 0
        · rw [if_pos q, if_pos ((h e).mp q)]
        · rw [if_neg q, if_neg (fun z => q ((h e).mpr z))]
      · rfl
theorem oS_cg {a b g X Y : Int → Int} {s : Int} : ∀ k : Nat, (∀ j : Nat, j < k → a j = 9 → (X j = 0 ↔ Y j = 0)) → oS a b g X s k = oS a b g Y s k
  | 0, _ => rfl
  | k + 1, h => by
    show oS a b g X s k + (if g k = s then sI a b X k else 0) = oS a b g Y s k + (if g k = s then sI a b Y k else 0)
    rw [oS_cg k (fun j hj => h j (by omega))]
    rw [sI_cg (h k (by omega))]
/-- the segments' bytes together -/
theorem oS_nn {a b g X : Int → Int} {s : Int} (k : Nat) (hb : ∀ j : Nat, j < k → a j = 5 → 0 ≤ b j) : 0 ≤ oS a b g X s k := by
  have := (oS_mo (a := a) (b := b) (g := g) (X := X) (Y := X) (s := s) (m := 0) k (by omega) hb (fun _ _ q => q)).1
  have e : oS a b g X s 0 = 0 := rfl
  omega
/-- from behind item j to its label -/
def dS (a b c g X : Int → Int) (N : Nat) (j : Int) : Int := oS a b g X (g j) (lI a c (c j) N).toNat - oS a b g X (g j) j.toNat - sI a b X j
def Sh (d : Int) : Prop := -128 ≤ d ∧ d ≤ 127
/-- a jump in its place: its name is a label in its segment -/
def HJ (a c g r : Int → Int) (N : Nat) (j : Int) : Prop := r (c j) = 3 ∨ (0 ≤ lI a c (c j) N ∧ g (lI a c (c j) N) = g j)
/-- no jump more must be near -/
def Cl (a b c g r X : Int → Int) (N : Nat) : Prop := ∀ j : Int, 0 ≤ j → j < N → a j = 9 → X j = 0 → r (c j) ≠ 3 ∧ Sh (dS a b c g X N j)
theorem dS_mo {a b c g r X Y : Int → Int} {N : Nat} {j : Int} (hb : ∀ j : Nat, j < N → a j = 5 → 0 ≤ b j) (hx : ∀ j : Nat, j < N → Y j = 0 → X j = 0) (j0 : 0 ≤ j) (j1 : j < N) (t : a j = 9) (y0 : Y j = 0) (hh : HJ a c g r N j) (h3 : r (c j) ≠ 3) (hs : Sh (dS a b c g Y N j)) : Sh (dS a b c g X N j) := by
  have hl : 0 ≤ lI a c (c j) N ∧ g (lI a c (c j) N) = g j := by
    rcases hh with q | q
    · exact absurd q h3
    · exact q
  obtain ⟨l0, l1, l2, l3⟩ : 0 ≤ lI a c (c j) N ∧ lI a c (c j) N < N ∧ a (lI a c (c j) N) = 1 ∧ c (lI a c (c j) N) = c j := by
    rcases lI_bd (a := a) (c := c) (n := c j) N with q | q
    · omega
    · exact q
  have x0 : X j = 0 := by
    have := hx j.toNat (by omega)
    rw [show ((j.toNat : Nat) : Int) = j by omega] at this
    exact this y0
  have sx : sI a b X j = 2 := by unfold sI; rw [if_neg (by omega), if_neg (by omega), if_pos t, if_pos x0]
  have sy : sI a b Y j = 2 := by unfold sI; rw [if_neg (by omega), if_neg (by omega), if_pos t, if_pos y0]
  have ox : oS a b g X (g j) (j.toNat + 1) = oS a b g X (g j) j.toNat + 2 := by
    show oS a b g X (g j) j.toNat + (if g (j.toNat : Int) = g j then sI a b X (j.toNat : Int) else 0) = _
    rw [show ((j.toNat : Nat) : Int) = j by omega, if_pos rfl, sx]
  have oy : oS a b g Y (g j) (j.toNat + 1) = oS a b g Y (g j) j.toNat + 2 := by
    show oS a b g Y (g j) j.toNat + (if g (j.toNat : Int) = g j then sI a b Y (j.toNat : Int) else 0) = _
    rw [show ((j.toNat : Nat) : Int) = j by omega, if_pos rfl, sy]
  unfold Sh dS at hs ⊢
  rw [sy] at hs
  rw [sx]
  have ne : lI a c (c j) N ≠ j := fun q => by rw [q] at l2; omega
  by_cases q : j < lI a c (c j) N
  · have m := oS_mo (a := a) (b := b) (g := g) (X := X) (Y := Y) (s := g j) (m := j.toNat + 1) (lI a c (c j) N).toNat (by omega) (fun k hk => hb k (by omega)) (fun k hk => hx k (by omega))
    rw [ox, oy] at m
    omega
  · have m := oS_mo (a := a) (b := b) (g := g) (X := X) (Y := Y) (s := g j) (m := (lI a c (c j) N).toNat) (j.toNat + 1) (by omega) (fun k hk => hb k (by omega)) (fun k hk => hx k (by omega))
    rw [ox, oy] at m
    omega
/-- in every closed set -/
def Le (a b c g r X : Int → Int) (N : Nat) : Prop := ∀ Y : Int → Int, Cl a b c g r Y N → ∀ j : Int, 0 ≤ j → j < N → a j = 9 → Y j = 0 → X j = 0
/-- a jump that must be near is in every closed set -/
theorem Le.ad {a b c g r X : Int → Int} {N : Nat} {j : Int} (h : Le a b c g r X N) (hb : ∀ j : Nat, j < N → a j = 5 → 0 ≤ b j) (j0 : 0 ≤ j) (j1 : j < N) (t : a j = 9) (hh : HJ a c g r N j) (hf : r (c j) = 3 ∨ ¬ Sh (dS a b c g X N j)) : ∀ Y : Int → Int, Cl a b c g r Y N → Y j ≠ 0 := by
  intro Y hY y0
  have hc := hY j j0 j1 t y0
  rcases hf with q | q
  · exact hc.1 q
  · -- compare on jumps alone
    have e : dS a b c g X N j = dS a b c g (fun i => if a i = 9 then X i else Y i) N j := by
      have hl := lI_bd (a := a) (c := c) (n := c j) N
      unfold dS
      rw [oS_cg (a := a) (X := X) (Y := fun i => if a i = 9 then X i else Y i) _ (fun k hk e9 => by show X k = 0 ↔ (if a k = 9 then X k else Y k) = 0; rw [if_pos e9]), oS_cg (a := a) (X := X) (Y := fun i => if a i = 9 then X i else Y i) j.toNat (fun k hk e9 => by show X k = 0 ↔ (if a k = 9 then X k else Y k) = 0; rw [if_pos e9])]
      rw [sI_cg (a := a) (b := b) (X := X) (Y := fun i => if a i = 9 then X i else Y i) (i := j) (fun e9 => by show X j = 0 ↔ (if a j = 9 then X j else Y j) = 0; rw [if_pos e9])]
    rw [e] at q
    refine q (dS_mo (Y := Y) hb (fun k hk yk => ?_) j0 j1 t y0 hh hc.1 hc.2)
    show (if a k = 9 then X k else Y k) = 0
    by_cases z : a k = 9
    · rw [if_pos z]; exact h Y hY k (by omega) (by omega) z yk
    · rw [if_neg z]; exact yk
/-- the least closed set is one -/
theorem Cl.u {a b c g r X Y : Int → Int} {N : Nat} (hx : Cl a b c g r X N) (lx : Le a b c g r X N) (hy : Cl a b c g r Y N) (ly : Le a b c g r Y N) (j : Nat) (hj : j < N) (t : a j = 9) : X j = 0 ↔ Y j = 0 := ⟨fun q => ly X hx j (by omega) (by omega) t q, fun q => lx Y hy j (by omega) (by omega) t q⟩
