/-! X: sizes, offsets, jumps that must be near -/
/-- how many bytes an item has; X: the jumps that are near -/
def sI (a b X : Int → Int) (i : Int) : Int := if a i = 4 then 1 else if a i = 5 then b i else if a i = 9 then (if X i = 0 then 2 else 3) else if a i = 6 ∨ a i = 7 ∨ a i = 8 ∨ a i = 10 then 2 else if a i = 11 then 3 else if a i = 12 then 5 else 0
/-- the bytes of segment s before item k -/
def oS (a b g X : Int → Int) (s : Int) : Nat → Int
  | 0 => 0
  | k + 1 => oS a b g X s k + (if g k = s then sI a b X k else 0)
/-- the last label n before item k -/
def lI (a c : Int → Int) (n : Int) : Nat → Int
  | 0 => -1
  | k + 1 => if a k = 1 ∧ c k = n then (k : Int) else lI a c n k
theorem lI_bd {a c : Int → Int} {n : Int} : ∀ k : Nat, lI a c n k = -1 ∨ (0 ≤ lI a c n k ∧ lI a c n k < k ∧ a (lI a c n k) = 1 ∧ c (lI a c n k) = n)
  | 0 => Or.inl rfl
  | k + 1 => by
    show (if a k = 1 ∧ c k = n then (k : Int) else lI a c n k) = -1 ∨ (0 ≤ (if a k = 1 ∧ c k = n then (k : Int) else lI a c n k) ∧ (if a k = 1 ∧ c k = n then (k : Int) else lI a c n k) < ((k + 1 : Nat) : Int) ∧ a (if a k = 1 ∧ c k = n then (k : Int) else lI a c n k) = 1 ∧ c (if a k = 1 ∧ c k = n then (k : Int) else lI a c n k) = n)
    split
    · rename_i h
      exact Or.inr ⟨by omega, by omega, h.1, h.2⟩
    · rcases lI_bd (a := a) (c := c) (n := n) k with q | q
      · exact Or.inl q
      · exact Or.inr ⟨q.1, by omega, q.2.2.1, q.2.2.2⟩
theorem sI_nn {a b X : Int → Int} {i : Int} (h : a i = 5 → 0 ≤ b i) : 0 ≤ sI a b X i := by
  unfold sI
  split
  · decide
  · split
    · rename_i e; exact h e
    · split
      · split <;> decide
      · split
        · decide
        · split
          · decide
          · split <;> decide
theorem sI_mo {a b X Y : Int → Int} {i : Int} (h : Y i = 0 → X i = 0) : sI a b X i ≤ sI a b Y i := by
  unfold sI
  split
  · exact Int.le_refl _
  · split
    · exact Int.le_refl _
    · split
      · by_cases q : Y i = 0
        · rw [if_pos q, if_pos (h q)]; exact Int.le_refl _
        · rw [if_neg q]; split <;> decide
      · exact Int.le_refl _
theorem oS_mo {a b g X Y : Int → Int} {s : Int} {m : Nat} : ∀ k : Nat, m ≤ k → (∀ j : Nat, j < k → a j = 5 → 0 ≤ b j) → (∀ j : Nat, j < k → Y j = 0 → X j = 0) → 0 ≤ oS a b g X s k - oS a b g X s m ∧ oS a b g X s k - oS a b g X s m ≤ oS a b g Y s k - oS a b g Y s m
  | 0, hm, _, _ => by
    have : m = 0 := by omega
    rw [this]; omega
  | k + 1, hm, hb, hx => by
    by_cases e : m = k + 1
    · rw [e]; omega
    · obtain ⟨h1, h2⟩ := oS_mo (a := a) (b := b) (g := g) (X := X) (Y := Y) (s := s) k (m := m) (by omega) (fun j hj => hb j (by omega)) (fun j hj => hx j (by omega))
      have h3 := sI_nn (a := a) (b := b) (X := X) (i := k) (hb k (by omega))
      have h4 := sI_mo (a := a) (b := b) (X := X) (Y := Y) (i := k) (hx k (by omega))
      show 0 ≤ oS a b g X s k + (if g k = s then sI a b X k else 0) - oS a b g X s m ∧ oS a b g X s k + (if g k = s then sI a b X k else 0) - oS a b g X s m ≤ oS a b g Y s k + (if g k = s then sI a b Y k else 0) - oS a b g Y s m
      split <;> omega
theorem sI_cg {a b X Y : Int → Int} {i : Int} (h : a i = 9 → (X i = 0 ↔ Y i = 0)) : sI a b X i = sI a b Y i := by
  unfold sI
  split
  · rfl
  · split
    · rfl
    · split
      · rename_i e
        by_cases q : X i = 0
        · rw [if_pos q, if_pos ((h e).mp q)]
        · rw [if_neg q, if_neg (fun z => q ((h e).mpr z))]
      · rfl
theorem oS_cg {a b g X Y : Int → Int} {s : Int} : ∀ k : Nat, (∀ j : Nat, j < k → a j = 9 → (X j = 0 ↔ Y j = 0)) → oS a b g X s k = oS a b g Y s k
  | 0, _ => rfl
  | k + 1, h => by
    show oS a b g X s k + (if g k = s then sI a b X k else 0) = oS a b g Y s k + (if g k = s then sI a b Y k else 0)
    rw [oS_cg k (fun j hj => h j (by omega))]
    rw [sI_cg (h k (by omega))]
/-- the segments' bytes together -/
theorem oS_nn {a b g X : Int → Int} {s : Int} (k : Nat) (hb : ∀ j : Nat, j < k → a j = 5 → 0 ≤ b j) : 0 ≤ oS a b g X s k := by
  have := (oS_mo (a := a) (b := b) (g := g) (X := X) (Y := X) (s := s) (m := 0) k (by omega) hb (fun _ _ q => q)).1
  have e : oS a b g X s 0 = 0 := rfl
  omega
/-- from behind item j to its label -/
def dS (a b c g X : Int → Int) (N : Nat) (j : Int) : Int := oS a b g X (g j) (lI a c (c j) N).toNat - oS a b g X (g j) j.toNat - sI a b X j
def Sh (d : Int) : Prop := -128 ≤ d ∧ d ≤ 127
/-- a jump in its place: its name is a label in its segment -/
def HJ (a c g r : Int → Int) (N : Nat) (j : Int) : Prop := r (c j) = 3 ∨ (0 ≤ lI a c (c j) N ∧ g (lI a c (c j) N) = g j)
/-- no jump more must be near -/
def Cl (a b c g r X : Int → Int) (N : Nat) : Prop := ∀ j : Int, 0 ≤ j → j < N → a j = 9 → X j = 0 → r (c j) ≠ 3 ∧ Sh (dS a b c g X N j)
theorem dS_mo {a b c g r X Y : Int → Int} {N : Nat} {j : Int} (hb : ∀ j : Nat, j < N → a j = 5 → 0 ≤ b j) (hx : ∀ j : Nat, j < N → Y j = 0 → X j = 0) (j0 : 0 ≤ j) (j1 : j < N) (t : a j = 9) (y0 : Y j = 0) (hh : HJ a c g r N j) (h3 : r (c j) ≠ 3) (hs : Sh (dS a b c g Y N j)) : Sh (dS a b c g X N j) := by
  have hl : 0 ≤ lI a c (c j) N ∧ g (lI a c (c j) N) = g j := by
    rcases hh with q | q
    · exact absurd q h3
    · exact q
  obtain ⟨l0, l1, l2, l3⟩ : 0 ≤ lI a c (c j) N ∧ lI a c (c j) N < N ∧ a (lI a c (c j) N) = 1 ∧ c (lI a c (c j) N) = c j := by
    rcases lI_bd (a := a) (c := c) (n := c j) N with q | q
    · omega
    · exact q
  have x0 : X j = 0 := by
    have := hx j.toNat (by omega)
    rw [show ((j.toNat : Nat) : Int) = j by omega] at this
    exact this y0
  have sx : sI a b X j = 2 := by unfold sI; rw [if_neg (by omega), if_neg (by omega), if_pos t, if_pos x0]
  have sy : sI a b Y j = 2 := by unfold sI; rw [if_neg (by omega), if_neg (by omega), if_pos t, if_pos y0]
  have ox : oS a b g X (g j) (j.toNat + 1) = oS a b g X (g j) j.toNat + 2 := by
    show oS a b g X (g j) j.toNat + (if g (j.toNat : Int) = g j then sI a b X (j.toNat : Int) else 0) = _
    rw [show ((j.toNat : Nat) : Int) = j by omega, if_pos rfl, sx]
  have oy : oS a b g Y (g j) (j.toNat + 1) = oS a b g Y (g j) j.toNat + 2 := by
    show oS a b g Y (g j) j.toNat + (if g (j.toNat : Int) = g j then sI a b Y (j.toNat : Int) else 0) = _
    rw [show ((j.toNat : Nat) : Int) = j by omega, if_pos rfl, sy]
  unfold Sh dS at hs ⊢
  rw [sy] at hs
  rw [sx]
  have ne : lI a c (c j) N ≠ j := fun q => by rw [q] at l2; omega
  by_cases q : j < lI a c (c j) N
  · have m := oS_mo (a := a) (b := b) (g := g) (X := X) (Y := Y) (s := g j) (m := j.toNat + 1) (lI a c (c j) N).toNat (by omega) (fun k hk => hb k (by omega)) (fun k hk => hx k (by omega))
    rw [ox, oy] at m
    omega
  · have m := oS_mo (a := a) (b := b) (g := g) (X := X) (Y := Y) (s := g j) (m := (lI a c (c j) N).toNat) (j.toNat + 1) (by omega) (fun k hk => hb k (by omega)) (fun k hk => hx k (by omega))
    rw [ox, oy] at m
    omega
/-- in every closed set -/
def Le (a b c g r X : Int → Int) (N : Nat) : Prop := ∀ Y : Int → Int, Cl a b c g r Y N → ∀ j : Int, 0 ≤ j → j < N → a j = 9 → Y j = 0 → X j = 0
/-- a jump that must be near is in every closed set -/
theorem Le.ad {a b c g r X : Int → Int} {N : Nat} {j : Int} (h : Le a b c g r X N) (hb : ∀ j : Nat, j < N → a j = 5 → 0 ≤ b j) (j0 : 0 ≤ j) (j1 : j < N) (t : a j = 9) (hh : HJ a c g r N j) (hf : r (c j) = 3 ∨ ¬ Sh (dS a b c g X N j)) : ∀ Y : Int → Int, Cl a b c g r Y N → Y j ≠ 0 := by
  intro Y hY y0
  have hc := hY j j0 j1 t y0
  rcases hf with q | q
  · exact hc.1 q
  · -- compare on jumps alone
    have e : dS a b c g X N j = dS a b c g (fun i => if a i = 9 then X i else Y i) N j := by
      have hl := lI_bd (a := a) (c := c) (n := c j) N
      unfold dS
      rw [oS_cg (a := a) (X := X) (Y := fun i => if a i = 9 then X i else Y i) _ (fun k hk e9 => by show X k = 0 ↔ (if a k = 9 then X k else Y k) = 0; rw [if_pos e9]), oS_cg (a := a) (X := X) (Y := fun i => if a i = 9 then X i else Y i) j.toNat (fun k hk e9 => by show X k = 0 ↔ (if a k = 9 then X k else Y k) = 0; rw [if_pos e9])]
      rw [sI_cg (a := a) (b := b) (X := X) (Y := fun i => if a i = 9 then X i else Y i) (i := j) (fun e9 => by show X j = 0 ↔ (if a j = 9 then X j else Y j) = 0; rw [if_pos e9])]
    rw [e] at q
    refine q (dS_mo (Y := Y) hb (fun k hk yk => ?_) j0 j1 t y0 hh hc.1 hc.2)
    show (if a k = 9 then X k else Y k) = 0
    by_cases z : a k = 9
    · rw [if_pos z]; exact h Y hY k (by omega) (by omega) z yk
    · rw [if_neg z]; exact yk
/-- the least closed set is one -/
theorem Cl.u {a b c g r X Y : Int → Int} {N : Nat} (hx : Cl a b c g r X N) (lx : Le a b c g r X N) (hy : Cl a b c g r Y N) (ly : Le a b c g r Y N) (j : Nat) (hj : j < N) (t : a j = 9) : X j = 0 ↔ Y j = 0 := ⟨fun q => ly X hx j (by omega) (by omega) t q, fun q => lx Y hy j (by omega) (by omega) t q⟩
/-! X: the class sizes its jumps, exactly -/
/-- what sizing leaves alone -/
def Fz (σ τ : ZS) : Prop := (∀ f : Nat, zI τ 11 f = zI σ 11 f) ∧ (∀ f : Nat, zI τ 13 f = zI σ 13 f) ∧ (∀ f : Nat, zI τ 15 f = zI σ 15 f) ∧ (∀ f : Nat, f ≠ 4 → zA τ 11 f = zA σ 11 f) ∧ (∀ f : Nat, f ≠ 1 → f ≠ 6 → zA τ 13 f = zA σ 13 f) ∧ (∀ f : Nat, f ≠ 3 → zA τ 15 f = zA σ 15 f)
theorem Fz.rf {σ : ZS} : Fz σ σ := ⟨fun _ => rfl, fun _ => rfl, fun _ => rfl, fun _ _ => rfl, fun _ _ _ => rfl, fun _ _ => rfl⟩
theorem Fz.tr {σ τ υ : ZS} (h : Fz σ τ) (k : Fz τ υ) : Fz σ υ := ⟨fun f => (k.1 f).trans (h.1 f), fun f => (k.2.1 f).trans (h.2.1 f), fun f => (k.2.2.1 f).trans (h.2.2.1 f), fun f e => (k.2.2.2.1 f e).trans (h.2.2.2.1 f e), fun f e e' => (k.2.2.2.2.1 f e e').trans (h.2.2.2.2.1 f e e'), fun f e => (k.2.2.2.2.2 f e).trans (h.2.2.2.2.2 f e)⟩
theorem Fz.a6 {σ : ZS} {i v : Int} : Fz σ (zsA σ 13 6 i v) := ⟨fun _ => rfl, fun _ => rfl, fun _ => rfl, fun _ _ => rfl, fun f _ e => zA_f e, fun _ _ => rfl⟩
theorem Fz.a1 {σ : ZS} {i v : Int} : Fz σ (zsA σ 13 1 i v) := ⟨fun _ => rfl, fun _ => rfl, fun _ => rfl, fun _ _ => rfl, fun f e _ => zA_f e, fun _ _ => rfl⟩
theorem Fz.a3 {σ : ZS} {i v : Int} : Fz σ (zsA σ 15 3 i v) := ⟨fun _ => rfl, fun _ => rfl, fun _ => rfl, fun _ _ => rfl, fun _ _ _ => rfl, fun f e => zA_f e⟩
theorem Fz.f3 {σ : ZS} {k : Int → Int} : Fz σ (zsF σ 15 3 k) := ⟨fun _ => rfl, fun _ => rfl, fun _ => rfl, fun _ _ => rfl, fun _ _ _ => rfl, fun f e => zA_Ff e⟩
theorem Fz.a4 {σ : ZS} {i v : Int} : Fz σ (zsA σ 11 4 i v) := ⟨fun _ => rfl, fun _ => rfl, fun _ => rfl, fun f e => zA_f e, fun _ _ _ => rfl, fun _ _ => rfl⟩
/-- the items are a, b, c, in segments g -/
def ZX (a b c g : Int → Int) (σ : ZS) : Prop := zA σ 13 0 = a ∧ zA σ 13 2 = c ∧ (∀ j : Int, 0 ≤ j → j < zI σ 13 7 → zA σ 13 5 j = g j) ∧ (∀ j : Int, 0 ≤ j → j < zI σ 13 7 → a j ≠ 9 → zA σ 13 1 j = b j)
/-- the jumps that are near -/
def xF (σ : ZS) : Int → Int := fun j => if zA σ 13 1 j = 2 then 0 else 1
theorem xF_eq {σ τ : ZS} (h : zA τ 13 1 = zA σ 13 1) : xF τ = xF σ := by unfold xF; rw [h]
theorem ZX.k {a b c g : Int → Int} {σ τ : ZS} (h : ZX a b c g σ) (f : Fz σ τ) (e1 : zA τ 13 1 = zA σ 13 1) : ZX a b c g τ := by
  obtain ⟨h0, h2, h5, h1⟩ := h
  exact ⟨(f.2.2.2.2.1 0 (by decide) (by decide)).trans h0, (f.2.2.2.2.1 2 (by decide) (by decide)).trans h2, by rw [f.2.1 7, f.2.2.2.2.1 5 (by decide) (by decide)]; exact h5, by rw [f.2.1 7, e1]; exact h1⟩
theorem x_bytesOf {a b c g : Int → Int} {σ : ZS} {i : Int} {Q : Int → ZS → Prop} (h : LY σ) (hx : ZX a b c g σ) (hi : 0 ≤ i ∧ i < zI σ 13 7) (hQ : (0 ≤ sI a b (xF σ) i ∧ sI a b (xF σ) i ≤ 64) → Q (sI a b (xF σ) i) σ) : wpX0_bytesOf i σ Q := by
  have hz := h.sz
  obtain ⟨i1, i2, i3, i4, i5, i6, i7, i8, i9, i10⟩ := h.it hi.1 hi.2
  obtain ⟨h0, h2, h5, h1⟩ := hx
  have hv := h1 i hi.1 hi.2
  have e0 : zA σ 13 0 i = a i := by rw [h0]
  have key : ∀ v : Int, ((a i = 4 ∧ v = 1) ∨ (a i = 5 ∧ v = zA σ 13 1 i) ∨ (a i = 9 ∧ v = zA σ 13 1 i) ∨ ((a i = 6 ∨ a i = 7 ∨ a i = 8 ∨ a i = 10) ∧ v = 2) ∨ (a i = 11 ∧ v = 3) ∨ (a i = 12 ∧ v = 5) ∨ ((a i ≠ 4 ∧ a i ≠ 5 ∧ a i ≠ 6 ∧ a i ≠ 7 ∧ a i ≠ 8 ∧ a i ≠ 9 ∧ a i ≠ 10 ∧ a i ≠ 11 ∧ a i ≠ 12) ∧ v = 0)) → Q v σ := by
    intro v hh
    have : sI a b (xF σ) i = v := by
      unfold sI xF
      rcases hh with ⟨t, e⟩ | ⟨t, e⟩ | ⟨t, e⟩ | ⟨t, e⟩ | ⟨t, e⟩ | ⟨t, e⟩ | ⟨t, e⟩
      · rw [if_pos t, e]
      · rw [if_neg (by omega), if_pos t, e, hv (by omega)]
      · have := i9 (by omega)
        rw [if_neg (by omega), if_neg (by omega), if_pos t]
        by_cases q : zA σ 13 1 i = 2
        · rw [if_pos q, if_pos rfl]; omega
        · rw [if_neg q, if_neg (by decide)]; omega
      · rw [if_neg (by omega), if_neg (by omega), if_neg (by omega), if_pos t, e]
      · rw [if_neg (by omega), if_neg (by omega), if_neg (by omega), if_neg (by omega), if_pos t, e]
      · rw [if_neg (by omega), if_neg (by omega), if_neg (by omega), if_neg (by omega), if_neg (by omega), if_pos t, e]
      · rw [if_neg (by omega), if_neg (by omega), if_neg (by omega), if_neg (by omega), if_neg (by omega), if_neg (by omega), e]
    rw [← this]
    refine hQ ?_
    rw [this]
    rcases hh with ⟨t, e⟩ | ⟨t, e⟩ | ⟨t, e⟩ | ⟨t, e⟩ | ⟨t, e⟩ | ⟨t, e⟩ | ⟨t, e⟩
    · omega
    · have := i8 (by omega); omega
    · have := i9 (by omega); omega
    · omega
    · omega
    · omega
    · omega
  unfold wpX0_bytesOf wpX0_bytesOf_58 wpX0_bytesOf_65
  rw [e0] at i1 ⊢
  exact ⟨by omega, by omega, fun _ => key _ (by omega), fun _ => ⟨fun e => ⟨by omega, key _ (by omega)⟩, fun _ => ⟨fun _ => key _ (by omega), fun _ => ⟨fun _ => key _ (by omega), fun _ => ⟨fun _ => key _ (by omega), fun _ => ⟨fun e => ⟨by omega, key _ (by omega)⟩, fun _ => ⟨fun _ => key _ (by omega), fun _ => ⟨fun _ => key _ (by omega), fun _ => ⟨fun _ => key _ (by omega), fun _ => key _ (by omega)⟩⟩⟩⟩⟩⟩⟩⟩⟩
/-- measured, up to item N -/
def Mz (a b c g X : Int → Int) (N : Int) (τ : ZS) : Prop := (∀ s : Int, 0 ≤ s → s < 60 → zA τ 15 3 s = oS a b g X s N.toNat) ∧ (∀ i : Int, 0 ≤ i → i < N → 0 ≤ g i → zA τ 13 6 i = oS a b g X (g i) i.toNat) ∧ (∀ n : Int, 0 ≤ lI a c n N.toNat → 0 ≤ g (lI a c n N.toNat) → zA τ 11 4 n = oS a b g X (g (lI a c n N.toNat)) (lI a c n N.toNat).toNat)
theorem x_measure {a b c g : Int → Int} {σ : ZS} {Q : ZS → Prop} (h : LZ σ) (hx : ZX a b c g σ) (hQ : ∀ τ : ZS, LZ τ → kp [11, 13, 15] σ τ → Fz σ τ → zA τ 13 1 = zA σ 13 1 → Mz a b c g (xF σ) (zI σ 13 7) τ → Q τ) : wpX2_measure σ Q := by
  unfold wpX2_measure wpX2_measure_10
  refine c_fill15_3 (fun k hk => ?_)
  refine lfp1_ind (fun v _ => (248 - v).toNat) (fun v τ => LZ τ ∧ kp [11, 13, 15] σ τ ∧ (∀ s : Int, 0 ≤ s → s < 60 → 0 ≤ zA τ 15 3 s ∧ zA τ 15 3 s ≤ 64 * v) ∧ (0 ≤ v ∧ v ≤ zI τ 13 7) ∧ Fz σ τ ∧ zA τ 13 1 = zA σ 13 1 ∧ Mz a b c g (xF σ) v τ) (fun K v τ hI ih => ?_) ⟨h.f3 (fun s s0 s1 => by rw [hk s s0 s1]; decide), kp.f (by decide), fun s s0 s1 => ?_, ⟨by decide, h.1.sz.1⟩, Fz.f3, rfl, ⟨fun s s0 s1 => ?_, fun i i0 i1 => absurd i0 (by omega), fun n n0 => absurd (show (0 : Int) ≤ -1 from n0) (by decide)⟩⟩
  · obtain ⟨lz, kk, sz, ⟨v0, v1⟩, fz, e1, mz⟩ := hI
    have hz := lz.1.sz
    have a4 := lz.1.2.2.2.1
    have hN := lz.1.2.1.1
    have zx := hx.k fz e1
    have xf := xF_eq e1
    have e7 : zI τ 13 7 = zI σ 13 7 := fz.2.1 7
    obtain ⟨z0, z2, z5, -⟩ := zx
    obtain ⟨m1, m2, m3⟩ := mz
    unfold wpbX2_measure_10 wpX2_measure_106
    refine ⟨by omega, by omega, fun q => hQ τ lz kk fz e1 (by rw [← e7, show zI τ 13 7 = v by omega]; exact ⟨m1, m2, m3⟩), fun lt => ?_⟩
    have hs := lz.2.1 v v0 (by omega)
    have z5v := z5 v v0 (by omega)
    rw [z5v] at hs ⊢
    have ev : (v + 1).toNat = v.toNat + 1 := by omega
    have evv : ((v.toNat : Nat) : Int) = v := by omega
    have os : ∀ s : Int, oS a b g (xF σ) s (v + 1).toNat = oS a b g (xF σ) s v.toNat + (if g v = s then sI a b (xF σ) v else 0) := by
      intro s
      rw [ev]
      show oS a b g (xF σ) s v.toNat + (if g (v.toNat : Int) = s then sI a b (xF σ) (v.toNat : Int) else 0) = _
      rw [evv]
    have ls : ∀ n : Int, lI a c n (v + 1).toNat = if a v = 1 ∧ c v = n then v else lI a c n v.toNat := by
      intro n
      rw [ev]
      show (if a (v.toNat : Int) = 1 ∧ c (v.toNat : Int) = n then (v.toNat : Int) else lI a c n v.toNat) = _
      rw [evv]
    refine ⟨by omega, by omega, fun neg => ih _ _ ⟨lz, kk, fun s s0 s1 => by have := sz s s0 s1; omega, by omega, fz, e1, fun s s0 s1 => ?_, fun i i0 i1 gi => ?_, fun n n0 gn => ?_⟩ (by omega), fun nn => ⟨by omega, ?_⟩⟩
    · rw [os, if_neg (by omega)]
      have := m1 s s0 s1
      omega
    · by_cases e : i = v
      · rw [e] at gi; omega
      · exact m2 i i0 (by omega) gi
    · rw [ls] at n0 gn ⊢
      by_cases q : a v = 1 ∧ c v = n
      · rw [if_pos q] at gn; omega
      · rw [if_neg q] at n0 gn ⊢; exact m3 n n0 gn
    have hs3 := sz (g v) (by omega) (by omega)
    have lz1 : LZ (zsA τ 13 6 v (zA τ 15 3 (g v))) := lz.s6 (by omega)
    have zx1 : ZX a b c g (zsA τ 13 6 v (zA τ 15 3 (g v))) := hx.k (fz.tr Fz.a6) e1
    have xf1 : xF (zsA τ 13 6 v (zA τ 15 3 (g v))) = xF σ := xF_eq e1
    refine x_bytesOf lz1.1 zx1 ⟨v0, show v < zI τ 13 7 by omega⟩ ?_
    rw [xf1]
    intro hx'
    obtain ⟨i1, i2, i3, i4, i5, i6, i7, i8, i9, i10⟩ := lz.1.it v0 (show v < zI τ 13 7 by omega)
    rw [z0] at i1 i6
    rw [z2] at i3 i6
    have szn : ∀ s : Int, 0 ≤ s → s < 60 → 0 ≤ zu (zA τ 15 3) (g v) (zA τ 15 3 (g v) + sI a b (xF σ) v) s ∧ zu (zA τ 15 3) (g v) (zA τ 15 3 (g v) + sI a b (xF σ) v) s ≤ 64 * (v + 1) := by
      intro s s0 s1
      by_cases e : s = g v
      · rw [e, pu_eq]; omega
      · rw [pu_ne e]; have := sz s s0 s1; omega
    have lz2 : LZ (zsA (zsA τ 13 6 v (zA τ 15 3 (g v))) 15 3 (g v) (zA τ 15 3 (g v) + sI a b (xF σ) v)) := lz1.f3 (fun s s0 s1 => by
      have := szn s s0 s1
      show 0 ≤ zu (zA τ 15 3) (g v) (zA τ 15 3 (g v) + sI a b (xF σ) v) s ∧ zu (zA τ 15 3) (g v) (zA τ 15 3 (g v) + sI a b (xF σ) v) s ≤ 20000
      omega)
    have k2 : kp [11, 13, 15] σ (zsA (zsA τ 13 6 v (zA τ 15 3 (g v))) 15 3 (g v) (zA τ 15 3 (g v) + sI a b (xF σ) v)) := (kk.ta (by decide)).ta (by decide)
    have fz2 : Fz σ (zsA (zsA τ 13 6 v (zA τ 15 3 (g v))) 15 3 (g v) (zA τ 15 3 (g v) + sI a b (xF σ) v)) := (fz.tr Fz.a6).tr Fz.a3
    have hsz : 0 ≤ v + 1 ∧ v + 1 ≤ zI τ 13 7 := by omega
    have n3 : ∀ s : Int, 0 ≤ s → s < 60 → zu (zA τ 15 3) (g v) (zA τ 15 3 (g v) + sI a b (xF σ) v) s = oS a b g (xF σ) s (v + 1).toNat := by
      intro s s0 s1
      rw [os]
      by_cases e : s = g v
      · rw [e, pu_eq, if_pos rfl, m1 (g v) (by omega) (by omega)]
      · rw [pu_ne e, if_neg (fun q => e q.symm), m1 s s0 s1]; omega
    have n6 : ∀ i : Int, 0 ≤ i → i < v + 1 → 0 ≤ g i → zu (zA τ 13 6) v (zA τ 15 3 (g v)) i = oS a b g (xF σ) (g i) i.toNat := by
      intro i i0 i1 gi
      by_cases e : i = v
      · rw [e, pu_eq]; exact m1 (g v) (by omega) (by omega)
      · rw [pu_ne e]; exact m2 i i0 (by omega) gi
    refine ⟨?_, fun n1 => ih _ _ ⟨lz2, k2, szn, hsz, fz2, e1, n3, n6, fun n n0 gn => ?_⟩ (by omega), fun e1' => ⟨?_, ih _ _ ⟨lz2.n4 ?_, k2.ta (by decide), szn, hsz, fz2.tr Fz.a4, e1, n3, n6, fun n n0 gn => ?_⟩ (by omega)⟩⟩
    · show -2147483648 ≤ zA τ 13 0 v ∧ zA τ 13 0 v ≤ 2147483647
      rw [z0]; omega
    · have n1' : ¬ zA τ 13 0 v = 1 := n1
      rw [z0] at n1'
      rw [ls, if_neg (fun q => n1' q.1)] at n0 gn ⊢
      exact m3 n n0 gn
    · have e1'' : zA τ 13 0 v = 1 := e1'
      rw [z0] at e1''
      have := i6 (by omega) (by omega) (by omega)
      show 0 ≤ zA τ 13 2 v ∧ zA τ 13 2 v < 240
      rw [z2]
      omega
    · show 0 ≤ zu (zA τ 13 6) v (zA τ 15 3 (g v)) v ∧ zu (zA τ 13 6) v (zA τ 15 3 (g v)) v ≤ 20000
      rw [pu_eq]; omega
    · have e1'' : zA τ 13 0 v = 1 := e1'
      rw [z0] at e1''
      show zu (zA τ 11 4) (zA τ 13 2 v) (zu (zA τ 13 6) v (zA τ 15 3 (g v)) v) n = _
      rw [ls] at n0 gn ⊢
      rw [z2, pu_eq]
      by_cases q : c v = n
      · rw [if_pos ⟨e1'', q⟩, q, pu_eq]; exact m1 (g v) (by omega) (by omega)
      · rw [if_neg (fun z => q z.2)] at n0 gn ⊢
        rw [pu_ne (fun z => q z.symm)]
        exact m3 n n0 gn
  · show 0 ≤ k s ∧ k s ≤ 64 * 0
    rw [hk s s0 s1]; decide
  · show k s = 0
    exact hk s s0 s1
theorem x_distance {a b c g X : Int → Int} {σ : ZS} {j : Int} {Q : Int → ZS → Prop} (h : LY σ) (hx : ZX a b c g σ) (hm : Mz a b c g X (zI σ 13 7) σ) (hs : sI a b (xF σ) j = sI a b X j) (hj : 0 ≤ j ∧ j < zI σ 13 7) (hl : 0 ≤ lI a c (c j) (zI σ 13 7).toNat ∧ g (lI a c (c j) (zI σ 13 7).toNat) = g j ∧ 0 ≤ g j) (hn : 0 ≤ zA σ 13 2 j) (hQ : (-30000 ≤ dS a b c g X (zI σ 13 7).toNat j ∧ dS a b c g X (zI σ 13 7).toNat j ≤ 30000) → Q (dS a b c g X (zI σ 13 7).toNat j) σ) : wpX2_distance j σ Q := by
  have hz := h.sz
  have hN := h.2.1.1
  obtain ⟨i1, i2, i3, i4, i5, i6, i7, i8, i9, i10⟩ := h.it hj.1 hj.2
  have ho := (h.1 (zA σ 13 2 j) hn (by omega)).2.2.2.2
  have h6 := h.2.2.1.1.2.2 j hj.1 hj.2
  have m4 := hm.2.2 (c j) hl.1 (by omega)
  have m6 := hm.2.1 j hj.1 hj.2 hl.2.2
  rw [hl.2.1] at m4
  unfold wpX2_distance
  refine ⟨by omega, by omega, x_bytesOf h hx hj (fun hb => ?_)⟩
  rw [hx.2.1] at ho ⊢
  rw [m4] at ho
  rw [m6] at h6
  rw [m4, m6, hs]
  rw [hs] at hb
  unfold dS at hQ
  exact hQ (by omega)
/-! X: the class's jumps grow to the least closed set -/
theorem x_isExtern {σ : ZS} {i : Int} {Q : Int → ZS → Prop} (h : LY σ) (hi : 0 ≤ i ∧ i < zI σ 13 7) (hn : 0 ≤ zA σ 13 2 i) (h1 : zA σ 11 1 (zA σ 13 2 i) = 3 → Q 1 σ) (h0 : zA σ 11 1 (zA σ 13 2 i) ≠ 3 → Q 0 σ) : wpX2_isExtern i σ Q := by
  have hz := h.sz
  have hN := h.2.1.1
  obtain ⟨i1, i2, i3, i4, i5, i6, i7, i8, i9, i10⟩ := h.it hi.1 hi.2
  have hr := (h.1 (zA σ 13 2 i) hn (by omega)).2.1
  unfold wpX2_isExtern wpX2_isExtern_26
  exact ⟨by omega, by omega, by omega, fun q => ⟨by decide, h0 q⟩, fun q => ⟨by decide, h1 q⟩⟩
/-- the jumps that are short -/
def cS9 (a X : Int → Int) (N : Nat) : Int := psum (fun j => if a j = 9 then (if X j = 0 then 1 else 0) else 0) N
theorem cS9_nn {a X : Int → Int} {N : Nat} : 0 ≤ cS9 a X N := psum_nn _ (fun j _ _ => by
  show 0 ≤ (if a j = 9 then (if X j = 0 then (1 : Int) else 0) else 0)
  split
  · split <;> decide
  · decide)
theorem cS9_le {a X : Int → Int} : ∀ N : Nat, cS9 a X N ≤ N
  | 0 => Int.le_refl 0
  | N + 1 => by
    have := cS9_le (a := a) (X := X) N
    show cS9 a X N + (if a N = 9 then (if X N = 0 then (1 : Int) else 0) else 0) ≤ ((N + 1 : Nat) : Int)
    split
    · split <;> omega
    · omega
theorem cS9_ls {a X Y : Int → Int} {N : Nat} {j : Int} (h0 : 0 ≤ j) (h1 : j < N) (t : a j = 9) (x0 : X j = 0) (y0 : Y j ≠ 0) (hs : ∀ i : Int, 0 ≤ i → i < N → i ≠ j → Y i = X i) : cS9 a Y N = cS9 a X N - 1 := by
  unfold cS9
  rw [psum_ext (f := fun i => if a i = 9 then (if Y i = 0 then (1 : Int) else 0) else 0) (g := zu (fun i => if a i = 9 then (if X i = 0 then (1 : Int) else 0) else 0) j ((fun i => if a i = 9 then (if X i = 0 then (1 : Int) else 0) else 0) j + -1)) N (fun i i0 i1 => ?_), psum_zu N h0 h1]
  · omega
  · show (if a i = 9 then (if Y i = 0 then (1 : Int) else 0) else 0) = zu (fun i => if a i = 9 then (if X i = 0 then (1 : Int) else 0) else 0) j ((if a j = 9 then (if X j = 0 then (1 : Int) else 0) else 0) + -1) i
    by_cases e : i = j
    · rw [e, pu_eq, if_pos t, if_neg y0, if_pos t, if_pos x0]; rfl
    · rw [pu_ne e, hs i i0 i1 e]
/-- every jump has its place -/
def HJx (a b c g r : Int → Int) (N : Nat) : Prop := (∀ j : Int, 0 ≤ j → j < N → a j = 9 → r (c j) = 3 ∨ (0 ≤ lI a c (c j) N ∧ g (lI a c (c j) N) = g j ∧ 0 ≤ g j)) ∧ (∀ j : Int, 0 ≤ j → j < N → a j = 10 → 0 ≤ lI a c (c j) N ∧ g (lI a c (c j) N) = g j ∧ 0 ≤ g j) ∧ (∀ j : Nat, j < N → a j = 5 → 0 ≤ b j)
theorem HJx.j {a b c g r : Int → Int} {N : Nat} {j : Int} (h : HJx a b c g r N) (j0 : 0 ≤ j) (j1 : j < N) (t : a j = 9) : HJ a c g r N j := by
  rcases h.1 j j0 j1 t with q | q
  · exact Or.inl q
  · exact Or.inr ⟨q.1, q.2.1⟩
theorem x_growJumps {a b c g r : Int → Int} {σ : ZS} {Q : Int → ZS → Prop} (h : LZ σ) (hx : ZX a b c g σ) (hr : ∀ j : Int, 0 ≤ j → j < zI σ 13 7 → a j = 9 → zA σ 11 1 (c j) = r (c j)) (hm : Mz a b c g (xF σ) (zI σ 13 7) σ) (hj : HJx a b c g r (zI σ 13 7).toNat) (hl : Le a b c g r (xF σ) (zI σ 13 7).toNat) (hQ : ∀ (x : Int) (τ : ZS), (0 ≤ x ∧ x ≤ 1) → LZ τ → kp [11, 13, 15] σ τ → Fz σ τ → ZX a b c g τ → (x = 0 → zA τ 13 1 = zA σ 13 1 ∧ zA τ 13 6 = zA σ 13 6 ∧ zA τ 11 4 = zA σ 11 4 ∧ zA τ 15 3 = zA σ 15 3 ∧ Cl a b c g r (xF σ) (zI σ 13 7).toNat) → (x = 1 → Le a b c g r (xF τ) (zI σ 13 7).toNat ∧ cS9 a (xF τ) (zI σ 13 7).toNat < cS9 a (xF σ) (zI σ 13 7).toNat) → Q x τ) : wpX2_growJumps σ Q := by
  have hz0 := h.1.sz
  unfold wpX2_growJumps wpX2_growJumps_4
  refine lfp2_ind (fun _ v _ => (248 - v).toNat) (fun f v τ => LZ τ ∧ kp [11, 13, 15] σ τ ∧ (0 ≤ f ∧ f ≤ 1) ∧ (0 ≤ v ∧ v ≤ zI τ 13 7) ∧ Fz σ τ ∧ ZX a b c g τ ∧ (zA τ 13 6 = zA σ 13 6 ∧ zA τ 11 4 = zA σ 11 4 ∧ zA τ 15 3 = zA σ 15 3) ∧ (∀ j : Int, v ≤ j → zA τ 13 1 j = zA σ 13 1 j) ∧ (∀ j : Int, 0 ≤ j → j < zI σ 13 7 → a j = 9 → xF τ j ≠ 0 → xF σ j ≠ 0 ∨ r (c j) = 3 ∨ ¬ Sh (dS a b c g (xF σ) (zI σ 13 7).toNat j)) ∧ (f = 0 → zA τ 13 1 = zA σ 13 1 ∧ ∀ j : Int, 0 ≤ j → j < v → a j = 9 → xF σ j = 0 → r (c j) ≠ 3 ∧ Sh (dS a b c g (xF σ) (zI σ 13 7).toNat j)) ∧ cS9 a (xF τ) (zI σ 13 7).toNat ≤ cS9 a (xF σ) (zI σ 13 7).toNat ∧ (f = 1 → cS9 a (xF τ) (zI σ 13 7).toNat < cS9 a (xF σ) (zI σ 13 7).toNat)) (fun K f v τ hI ih => ?_) ⟨h, kp.rf, by decide, ⟨by decide, h.1.sz.1⟩, Fz.rf, hx, ⟨rfl, rfl, rfl⟩, fun j _ => rfl, fun j _ _ _ q => Or.inl q, fun _ => ⟨rfl, fun j j0 j1 => absurd j0 (by omega)⟩, Int.le_refl _, fun q => absurd q (by decide)⟩
  obtain ⟨lz, kk, hf, ⟨v0, v1⟩, fz, zx, ⟨e6, e4, e3⟩, ej, g2, g3, g4, g5⟩ := hI
  have hz := lz.1.sz
  have e7 : zI τ 13 7 = zI σ 13 7 := fz.2.1 7
  unfold wpbX2_growJumps_4 wpX2_growJumps_73 wpX2_growJumps_61
  refine ⟨by omega, by omega, fun q => ⟨hf, hQ f τ hf lz kk fz zx (fun f0 => ⟨(g3 f0).1, e6, e4, e3, fun j j0 j1 t x0 => (g3 f0).2 j j0 (by omega) t x0⟩) (fun f1 => ⟨fun Y hY j j0 j1 t y0 => ?_, g5 f1⟩)⟩, fun lt => ?_⟩
  · by_cases q : xF τ j = 0
    · exact q
    · exfalso
      rcases g2 j j0 (by omega) t q with z | z
      · exact z (hl Y hY j j0 j1 t y0)
      · exact hl.ad hj.2.2 j0 j1 t (hj.j j0 j1 t) z Y hY y0
  obtain ⟨i1, i2, i3, i4, i5, i6, i7, i8, i9, i10⟩ := lz.1.it v0 (show v < zI τ 13 7 by omega)
  have z0 : zA τ 13 0 v = a v := by rw [zx.1]
  have z2 : zA τ 13 2 v = c v := by rw [zx.2.1]
  have on : (f = 0 → a v = 9 → xF σ v = 0 → r (c v) ≠ 3 ∧ Sh (dS a b c g (xF σ) (zI σ 13 7).toNat v)) → K f (v + 1) τ := by
    intro hh
    refine ih _ _ _ ⟨lz, kk, hf, by omega, fz, zx, ⟨e6, e4, e3⟩, fun j hj' => ej j (by omega), g2, fun f0 => ⟨(g3 f0).1, fun j j0 j1 t x0 => ?_⟩, g4, g5⟩ (by omega)
    by_cases e : j = v
    · rw [e] at t x0 ⊢; exact hh f0 t x0
    · exact (g3 f0).2 j j0 (by omega) t x0
  have gr : a v = 9 → zA τ 13 1 v = 2 → (r (c v) = 3 ∨ ¬ Sh (dS a b c g (xF σ) (zI σ 13 7).toNat v)) → (0 ≤ v ∧ v < 248) ∧ K 1 (v + 1) (zsA τ 13 1 v 3) := by
    intro e e2 hs
    have x0 : xF τ v = 0 := if_pos e2
    have xn : ∀ j : Int, j ≠ v → xF (zsA τ 13 1 v 3) j = xF τ j := by
      intro j hj'
      show (if zu (zA τ 13 1) v 3 j = 2 then (0 : Int) else 1) = (if zA τ 13 1 j = 2 then (0 : Int) else 1)
      rw [pu_ne hj']
    have xv : xF (zsA τ 13 1 v 3) v ≠ 0 := by
      show (if zu (zA τ 13 1) v 3 v = 2 then (0 : Int) else 1) ≠ 0
      rw [pu_eq]; decide
    have cs := cS9_ls (a := a) (X := xF τ) (Y := xF (zsA τ 13 1 v 3)) (N := (zI σ 13 7).toNat) (j := v) v0 (by omega) e x0 xv (fun i _ _ ne => xn i ne)
    refine ⟨by omega, ih _ _ _ ⟨lz.v3 (by omega), kk.ta (by decide), by decide, ⟨by omega, show v + 1 ≤ zI τ 13 7 by omega⟩, fz.tr Fz.a1, ⟨zx.1, zx.2.1, zx.2.2.1, fun j j0 j1 ne => ?_⟩, ⟨e6, e4, e3⟩, fun j hj' => ?_, fun j j0 j1 t q => ?_, fun q => absurd q (by decide), by omega, fun _ => by omega⟩ (by omega)⟩
    · show zu (zA τ 13 1) v 3 j = b j
      rw [pu_ne (fun q => ne (by rw [q]; exact e))]
      exact zx.2.2.2 j j0 j1 ne
    · show zu (zA τ 13 1) v 3 j = zA σ 13 1 j
      rw [pu_ne (by omega)]; exact ej j (by omega)
    · by_cases ejv : j = v
      · rw [ejv]; exact Or.inr hs
      · rw [xn j ejv] at q; exact g2 j j0 j1 t q
  refine ⟨by omega, by omega, fun n9 => on (fun _ t => by omega), fun e9 => ⟨by omega, fun n2 => on (fun f0 t x0 => ?_), fun e2 => ?_⟩⟩
  · exfalso
    have e1 := (g3 f0).1
    have : xF σ v ≠ 0 := by
      show (if zA σ 13 1 v = 2 then (0 : Int) else 1) ≠ 0
      rw [← e1, if_neg n2]; decide
    exact this x0
  have t9 : a v = 9 := by omega
  have er : zA τ 11 1 (c v) = r (c v) := by rw [fz.2.2.2.1 1 (by decide)]; exact hr v v0 (by omega) t9
  have hn := i6 (by omega) (by omega) (by omega)
  have x0 : xF τ v = 0 := if_pos e2
  have x0' : xF σ v = 0 := by
    show (if zA σ 13 1 v = 2 then (0 : Int) else 1) = 0
    rw [← ej v (Int.le_refl _), if_pos e2]
  have ss : sI a b (xF τ) v = sI a b (xF σ) v := sI_cg (fun _ => ⟨fun _ => x0', fun _ => x0⟩)
  refine x_isExtern lz.1 ⟨v0, by omega⟩ hn (fun q => ⟨by decide, fun _ => gr t9 e2 (Or.inl (by rw [← er, ← z2]; exact q)), fun q => absurd q (by decide)⟩) (fun q => ⟨by decide, fun q => absurd rfl q, fun _ => ?_⟩)
  have nr : r (c v) ≠ 3 := by rw [← er, ← z2]; exact q
  have hh : 0 ≤ lI a c (c v) (zI σ 13 7).toNat ∧ g (lI a c (c v) (zI σ 13 7).toNat) = g v ∧ 0 ≤ g v := by
    rcases hj.1 v v0 (by omega) t9 with z | z
    · exact absurd z nr
    · exact z
  have mt : Mz a b c g (xF σ) (zI τ 13 7) τ := by
    rw [e7]
    unfold Mz
    rw [e6, e4, e3]; exact hm
  refine x_distance lz.1 zx mt ss ⟨v0, by omega⟩ (by rw [e7]; exact hh) hn (fun hb => ?_)
  rw [e7] at hb ⊢
  exact c_isShort (by omega) (fun s1 s2 => ⟨by decide, fun _ => on (fun _ _ _ => ⟨nr, s1, s2⟩), fun q => absurd q (by decide)⟩) (fun ns => ⟨by decide, fun q => absurd rfl q, fun _ => gr t9 e2 (Or.inr ns)⟩)
theorem x_sizeJumps {a b c g r : Int → Int} {σ : ZS} {Q : Int → ZS → Prop} (h : LZ σ) (hx : ZX a b c g σ) (hr : ∀ j : Int, 0 ≤ j → j < zI σ 13 7 → a j = 9 → zA σ 11 1 (c j) = r (c j)) (hj : HJx a b c g r (zI σ 13 7).toNat) (h2 : ∀ j : Int, 0 ≤ j → j < zI σ 13 7 → a j = 9 → zA σ 13 1 j = 2) (hQ : ∀ (x : Int) (τ : ZS), LZ τ → kp [11, 13, 15] σ τ → x = psum (zA τ 15 3) (zI τ 15 4).toNat → (0 ≤ x ∧ x ≤ 1200000) → Fz σ τ → ZX a b c g τ → Mz a b c g (xF τ) (zI σ 13 7) τ → Cl a b c g r (xF τ) (zI σ 13 7).toNat → Le a b c g r (xF τ) (zI σ 13 7).toNat → Q x τ) : wpX2_sizeJumps σ Q := by
  have f33 : ∀ τ : ZS, LZ τ → kp [11, 13, 15] σ τ → Fz σ τ → ZX a b c g τ → Mz a b c g (xF τ) (zI σ 13 7) τ → Cl a b c g r (xF τ) (zI σ 13 7).toNat → Le a b c g r (xF τ) (zI σ 13 7).toNat → wpX2_sizeJumps_33 τ Q := by
    intro τ lz kk fz zx mz cl le
    have a4 := lz.1.2.2.2.1
    have a7 := lz.1.2.2.2.2.2.2.1
    unfold wpX2_sizeJumps_33 wpX2_sizeJumps_37
    refine lfp2_ind (fun _ v _ => (60 - v).toNat) (fun b v υ => υ = τ ∧ b = psum (zA τ 15 3) v.toNat ∧ (0 ≤ b ∧ b ≤ 20000 * v) ∧ (0 ≤ v ∧ v ≤ zI τ 15 4)) (fun K b v υ hI ih => ?_) ⟨rfl, rfl, by decide, by decide, a4.1⟩
    obtain ⟨e, hb, hb2, v0, v1⟩ := hI
    rw [e]
    unfold wpbX2_sizeJumps_37
    refine ⟨by omega, by omega, fun q => hQ b τ lz kk (by rw [show zI τ 15 4 = v by omega]; exact hb) (by omega) fz zx mz cl le, fun q => ⟨by omega, ih _ _ _ ⟨rfl, ?_, ?_, by omega, by omega⟩ (by omega)⟩⟩
    · rw [show (v + 1).toNat = v.toNat + 1 by omega]
      show b + zA τ 15 3 v = psum (zA τ 15 3) v.toNat + zA τ 15 3 ((v.toNat : Nat) : Int)
      rw [← hb, show ((v.toNat : Nat) : Int) = v by omega]
    · have := (a7 v v0 (by omega)).2
      omega
  have hz0 := h.1.sz
  unfold wpX2_sizeJumps wpX2_sizeJumps_2
  refine lfp1_ind (fun v _ => (249 - v).toNat) (fun v τ => LZ τ ∧ kp [11, 13, 15] σ τ ∧ (0 ≤ v ∧ v ≤ 249) ∧ Fz σ τ ∧ ZX a b c g τ ∧ Le a b c g r (xF τ) (zI σ 13 7).toNat ∧ cS9 a (xF τ) (zI σ 13 7).toNat ≤ zI σ 13 7 - v) (fun K v τ hI ih => ?_) ⟨h, kp.rf, by decide, Fz.rf, hx, fun Y hY j j0 j1 t y0 => if_pos (h2 j j0 (by omega) t), by have := cS9_le (a := a) (X := xF σ) (zI σ 13 7).toNat; omega⟩
  obtain ⟨lz, kk, hv, fz, zx, le, cs⟩ := hI
  have hz := lz.1.sz
  have e7 : zI τ 13 7 = zI σ 13 7 := fz.2.1 7
  have nn := cS9_nn (a := a) (X := xF τ) (N := (zI σ 13 7).toNat)
  unfold wpbX2_sizeJumps_2
  refine ⟨by omega, by omega, fun q => by omega, fun q => x_measure lz zx (fun υ uz uk ufz u1 um => ?_)⟩
  have u7 : zI υ 13 7 = zI σ 13 7 := (ufz.2.1 7).trans e7
  have xu : xF υ = xF τ := xF_eq u1
  have zxu := zx.k ufz u1
  have fzu := fz.tr ufz
  refine x_growJumps (r := r) uz zxu (fun j j0 j1 t => by rw [fzu.2.2.2.1 1 (by decide)]; exact hr j j0 (by omega) t) (by rw [xu, u7, ← e7]; exact um) (by rw [u7]; exact hj) (by rw [u7, xu]; exact le) (fun x ω hx' wz wk wfz wzx w0 w1 => ?_)
  rw [u7, xu] at w0 w1
  refine ⟨by omega, fun n0 => ?_, fun e0 => ?_⟩
  · obtain ⟨le', cs'⟩ := w1 (by omega)
    exact ih _ _ ⟨wz, (kk.tr uk).tr wk, by omega, fzu.tr wfz, wzx, le', by omega⟩ (by omega)
  · obtain ⟨y1, y6, y4, y3, cl⟩ := w0 e0
    have xw : xF ω = xF τ := (xF_eq y1).trans xu
    refine f33 ω wz ((kk.tr uk).tr wk) (fzu.tr wfz) wzx ?_ (by rw [xw]; exact cl) (by rw [xw]; exact le)
    rw [xw]
    unfold Mz
    rw [y6, y4, y3, ← e7]; exact um
theorem x_firstTooFar {a b c g r : Int → Int} {σ : ZS} {Q : Int → ZS → Prop} (h : LZ σ) (hx : ZX a b c g σ) (hm : Mz a b c g (xF σ) (zI σ 13 7) σ) (hj : HJx a b c g r (zI σ 13 7).toNat) (hw : ∀ j : Int, 0 ≤ j → j < zI σ 13 7 → a j = 10 → 0 ≤ zA σ 13 4 j) (hQ : ∀ x : Int, (-1 ≤ x ∧ x ≤ 480) → (x < 0 ↔ ∀ j : Int, 0 ≤ j → j < zI σ 13 7 → a j = 10 → Sh (dS a b c g (xF σ) (zI σ 13 7).toNat j)) → Q x σ) : wpX2_firstTooFar σ Q := by
  have hz := h.1.sz
  unfold wpX2_firstTooFar wpX2_firstTooFar_2
  refine lfp1_ind (fun v _ => (248 - v).toNat) (fun v τ => τ = σ ∧ (0 ≤ v ∧ v ≤ zI σ 13 7) ∧ ∀ j : Int, 0 ≤ j → j < v → a j = 10 → Sh (dS a b c g (xF σ) (zI σ 13 7).toNat j)) (fun K v τ hI ih => ?_) ⟨rfl, ⟨by decide, hz.1⟩, fun j j0 j1 => absurd j0 (by omega)⟩
  obtain ⟨e, ⟨v0, v1⟩, hs⟩ := hI
  rw [e]
  unfold wpbX2_firstTooFar_2 wpX2_firstTooFar_48
  refine ⟨by omega, by omega, fun q => hQ _ (by decide) ⟨fun _ j j0 j1 => hs j j0 (by omega), fun _ => by decide⟩, fun lt => ?_⟩
  obtain ⟨i1, i2, i3, i4, i5, i6, i7, i8, i9, i10⟩ := h.1.it v0 (show v < zI σ 13 7 by omega)
  have z0 : zA σ 13 0 v = a v := by rw [hx.1]
  have on : (a v = 10 → Sh (dS a b c g (xF σ) (zI σ 13 7).toNat v)) → K (v + 1) σ := fun hh => ih _ _ ⟨rfl, by omega, fun j j0 j1 t => by
    by_cases ej : j = v
    · rw [ej] at t ⊢; exact hh t
    · exact hs j j0 (by omega) t⟩ (by omega)
  refine ⟨by omega, by omega, fun n => on (fun t => by omega), fun e10 => ?_⟩
  have t10 : a v = 10 := by omega
  have hn := i6 (by omega) (by omega) (by omega)
  have ww := hw v v0 (by omega) t10
  exact x_distance h.1 hx hm rfl ⟨v0, by omega⟩ (hj.2.1 v v0 (by omega) t10) hn (fun hb => c_isShort (by omega) (fun s1 s2 => ⟨by decide, fun _ => on (fun _ => ⟨s1, s2⟩), fun q => absurd q (by decide)⟩) (fun ns => ⟨by decide, fun q => absurd rfl q, fun _ => hQ _ i5 ⟨fun q => by omega, fun q => absurd (q v v0 (by omega) t10) ns⟩⟩))
/-! X: the reference's pieces and the class's items -/
/-- the bytes of segment s before piece k -/
def oP (pk pa ps nr : Int → Int) (s : Int) : Nat → Int
  | 0 => 0
  | k + 1 => oP pk pa ps nr s k + (if ps k = s then szf (pk k) (pa k) (nr k) else 0)
/-- the last label n before piece k -/
def lP (pk pa : Int → Int) (n : Int) : Nat → Int
  | 0 => -1
  | k + 1 => if pk k = 7 ∧ pa k = n then (k : Int) else lP pk pa n k
theorem oP_cg {pk pa ps nr pk' pa' ps' : Int → Int} {s : Int} : ∀ k : Nat, (∀ j : Nat, j < k → pk j = pk' j ∧ pa j = pa' j ∧ ps j = ps' j) → oP pk pa ps nr s k = oP pk' pa' ps' nr s k
  | 0, _ => rfl
  | k + 1, h => by
    obtain ⟨h1, h2, h3⟩ := h k (by omega)
    show oP pk pa ps nr s k + (if ps k = s then szf (pk k) (pa k) (nr k) else 0) = oP pk' pa' ps' nr s k + (if ps' k = s then szf (pk' k) (pa' k) (nr k) else 0)
    rw [oP_cg k (fun j hj => h j (by omega)), h1, h2, h3]
theorem lP_cg {pk pa pk' pa' : Int → Int} {n : Int} : ∀ k : Nat, (∀ j : Nat, j < k → pk j = pk' j ∧ pa j = pa' j) → lP pk pa n k = lP pk' pa' n k
  | 0, _ => rfl
  | k + 1, h => by
    obtain ⟨h1, h2⟩ := h k (by omega)
    show (if pk k = 7 ∧ pa k = n then (k : Int) else lP pk pa n k) = (if pk' k = 7 ∧ pa' k = n then (k : Int) else lP pk' pa' n k)
    rw [lP_cg k (fun j hj => h j (by omega)), h1, h2]
def oPd (d : YD) (nr : Int → Int) (s : Int) : Int := oP d.pk d.pa d.ps nr s d.np.toNat
def lPd (d : YD) (n : Int) : Int := lP d.pk d.pa n d.np.toNat
theorem oPd_p {d : YD} {nr : Int → Int} {s k a b : Int} (h : 0 ≤ d.np) : oPd (yP d k a b) nr s = oPd d nr s + (if d.cur = s then szf k a (nr d.np) else 0) := by
  show oP (zu d.pk d.np k) (zu d.pa d.np a) (zu d.ps d.np d.cur) nr s (d.np + 1).toNat = _
  rw [show (d.np + 1).toNat = d.np.toNat + 1 by omega]
  show oP (zu d.pk d.np k) (zu d.pa d.np a) (zu d.ps d.np d.cur) nr s d.np.toNat + (if zu d.ps d.np d.cur (d.np.toNat : Int) = s then szf (zu d.pk d.np k (d.np.toNat : Int)) (zu d.pa d.np a (d.np.toNat : Int)) (nr (d.np.toNat : Int)) else 0) = _
  rw [show ((d.np.toNat : Nat) : Int) = d.np by omega, pu_eq, pu_eq, pu_eq, oP_cg d.np.toNat (fun j hj => ⟨pu_ne (by omega), pu_ne (by omega), pu_ne (by omega)⟩)]
  rfl
theorem lPd_p {d : YD} {n k a b : Int} (h : 0 ≤ d.np) : lPd (yP d k a b) n = if k = 7 ∧ a = n then d.np else lPd d n := by
  show lP (zu d.pk d.np k) (zu d.pa d.np a) n (d.np + 1).toNat = _
  rw [show (d.np + 1).toNat = d.np.toNat + 1 by omega]
  show (if zu d.pk d.np k (d.np.toNat : Int) = 7 ∧ zu d.pa d.np a (d.np.toNat : Int) = n then (d.np.toNat : Int) else lP (zu d.pk d.np k) (zu d.pa d.np a) n d.np.toNat) = _
  rw [show ((d.np.toNat : Nat) : Int) = d.np by omega, pu_eq, pu_eq, lP_cg d.np.toNat (fun j hj => ⟨pu_ne (by omega), pu_ne (by omega)⟩)]
  rfl
/-- pieces that stand stay -/
def Pre (d e : YD) : Prop := d.np ≤ e.np ∧ ∀ q : Int, q < d.np → e.pk q = d.pk q ∧ e.pa q = d.pa q ∧ e.pb q = d.pb q ∧ e.ps q = d.ps q
theorem Pre.rf (d : YD) : Pre d d := ⟨Int.le_refl _, fun _ _ => ⟨rfl, rfl, rfl, rfl⟩⟩
theorem Pre.tr {d e f : YD} (h : Pre d e) (k : Pre e f) : Pre d f := ⟨by have := h.1; have := k.1; omega, fun q hq => by
  obtain ⟨a1, a2, a3, a4⟩ := h.2 q hq
  obtain ⟨b1, b2, b3, b4⟩ := k.2 q (by have := h.1; omega)
  exact ⟨b1.trans a1, b2.trans a2, b3.trans a3, b4.trans a4⟩⟩
theorem Pre.p (d : YD) (k a b : Int) : Pre d (yP d k a b) := ⟨by show d.np ≤ d.np + 1; omega, fun q hq => ⟨pu_ne (by omega), pu_ne (by omega), pu_ne (by omega), pu_ne (by omega)⟩⟩
theorem Pre.w {d e : YD} (k : e.2.2.2 = d.2.2.2) : Pre d e := by
  unfold Pre YD.np YD.pk YD.pa YD.pb YD.ps
  rw [k]; exact ⟨Int.le_refl _, fun _ _ => ⟨rfl, rfl, rfl, rfl⟩⟩
theorem Pre.u (d : YD) (k n : Int) : Pre d (yU d k n) := ⟨Int.le_refl _, fun _ _ => ⟨rfl, rfl, rfl, rfl⟩⟩
theorem yI_pre (d : YD) (t v n : Int) (h0 : 0 ≤ t) (h1 : t ≤ 12) : Pre d (yI d t v n) := by
  have hc : t = 0 ∨ t = 1 ∨ t = 3 ∨ t = 2 ∨ t = 4 ∨ t = 5 ∨ t = 6 ∨ t = 7 ∨ t = 8 ∨ t = 9 ∨ t = 10 ∨ t = 11 ∨ t = 12 := by omega
  rcases hc with rfl | rfl | rfl | rfl | rfl | rfl | rfl | rfl | rfl | rfl | rfl | rfl | rfl
  · exact Pre.w (ySeg_p d n v)
  · show Pre d (yLab d n)
    rw [yLab_eq]
    split
    · exact Pre.tr (e := yLn d n) (Pre.w rfl) (Pre.p _ _ _ _)
    · exact Pre.w rfl
  · exact Pre.w (yExt_p d n)
  · exact Pre.u d 0 n
  · exact Pre.p d _ _ _
  · exact Pre.p d _ _ _
  · exact Pre.p d _ _ _
  · exact (Pre.u d 1 n).tr (Pre.p _ _ _ _)
  · exact (Pre.u d 1 n).tr (Pre.p _ _ _ _)
  · exact (Pre.u d 3 n).tr (Pre.p _ _ _ _)
  · exact (Pre.u d 2 n).tr (Pre.p _ _ _ _)
  · exact (Pre.u d 3 n).tr (Pre.p _ _ _ _)
  · exact (Pre.u d 4 n).tr ((Pre.p _ _ _ _).tr ((Pre.p _ _ _ _).tr (Pre.p _ _ _ _)))
theorem yI_bad {d : YD} {t v n : Int} (h0 : 0 ≤ t) (h1 : t ≤ 12) (h : ¬ (yI d t v n).bad) : ¬ d.bad ∧ (t = 1 → d.so n = 0) ∧ (t = 3 → d.so n = 0) := by
  have hc : t = 0 ∨ t = 1 ∨ t = 3 ∨ (t ≠ 0 ∧ t ≠ 1 ∧ t ≠ 3) := by omega
  rcases hc with rfl | rfl | rfl | ⟨q0, q1, q3⟩
  · have h' : ¬ (ySeg d n v).bad := h
    refine ⟨?_, fun q => absurd q (by decide), fun q => absurd q (by decide)⟩
    rw [ySeg_eq] at h'
    split at h'
    · exact absurd trivial h'
    · split at h' <;> exact h'
  · have h' : ¬ (yLab d n).bad := h
    rw [yLab_eq] at h'
    split at h'
    · rename_i e
      exact ⟨h', fun _ => e, fun q => absurd q (by decide)⟩
    · exact absurd trivial h'
  · have h' : ¬ (yExt d n).bad := h
    rw [yExt_eq] at h'
    split at h'
    · rename_i e
      exact ⟨h', fun q => absurd q (by decide), fun _ => e⟩
    · exact absurd trivial h'
  · have y := (yI_o (d := d) (t := t) (v := v) (n := n) h0 h1 q0 q1 q3).2.2
    refine ⟨?_, fun q => absurd q q1, fun q => absurd q q3⟩
    unfold YD.bad at h ⊢
    rw [y] at h
    exact h
/-- where an item's piece stands -/
def PI (a b c : Int → Int) (i : Int) : Int := (yF a b c i.toNat).np
/-- the segment of an item -/
def gI (a b c : Int → Int) (i : Int) : Int := (yF a b c (i + 1).toNat).cur
theorem yF_pre {a b c : Int → Int} {m : Nat} : ∀ k : Nat, m ≤ k → (∀ j : Nat, j < k → 0 ≤ a j ∧ a j ≤ 12) → Pre (yF a b c m) (yF a b c k)
  | 0, hm, _ => by rw [Nat.le_zero.mp hm]; exact Pre.rf _
  | k + 1, hm, h => by
    by_cases e : m = k + 1
    · rw [e]; exact Pre.rf _
    · exact (yF_pre k (by omega) (fun j hj => h j (by omega))).tr (yI_pre _ _ _ _ (h k (by omega)).1 (h k (by omega)).2)
theorem yF_np {a b c : Int → Int} (k : Nat) (h : ∀ j : Nat, j < k → 0 ≤ a j ∧ a j ≤ 12) : 0 ≤ (yF a b c k).np := (yF_pre (a := a) (b := b) (c := c) (m := 0) k (by omega) h).1
/-- bytes before item k, told by its pieces -/
theorem yF_oP {a b c : Int → Int} (nr : Int → Int) (s : Int) : ∀ k : Nat, (∀ j : Nat, j < k → 0 ≤ a j ∧ a j ≤ 12) → ¬ (yF a b c k).bad → oPd (yF a b c k) nr s = oS a b (gI a b c) (fun i => nr (PI a b c i)) s k
  | 0, _, _ => rfl
  | k + 1, h, nb => by
    have hk := h k (by omega)
    have e : yF a b c (k + 1) = yI (yF a b c k) (a k) (b k) (c k) := rfl
    have yb := yI_bad (d := yF a b c k) (t := a k) (v := b k) (n := c k) hk.1 hk.2 (by rw [← e]; exact nb)
    have ih := yF_oP nr s k (fun j hj => h j (by omega)) yb.1
    have n0 := yF_np (a := a) (b := b) (c := c) k (fun j hj => h j (by omega))
    have eg : gI a b c k = (yI (yF a b c k) (a k) (b k) (c k)).cur := by
      unfold gI
      rw [show ((k : Int) + 1).toNat = k + 1 by omega]
      rfl
    have ep : PI a b c k = (yF a b c k).np := by unfold PI; rw [show ((k : Int)).toNat = k by omega]
    show oPd (yI (yF a b c k) (a k) (b k) (c k)) nr s = oS a b (gI a b c) (fun i => nr (PI a b c i)) s k + (if gI a b c k = s then sI a b (fun i => nr (PI a b c i)) k else 0)
    rw [← ih, eg]
    unfold sI
    show oPd (yI (yF a b c k) (a k) (b k) (c k)) nr s = oPd (yF a b c k) nr s + (if (yI (yF a b c k) (a k) (b k) (c k)).cur = s then (if a k = 4 then 1 else if a k = 5 then b k else if a k = 9 then (if nr (PI a b c k) = 0 then 2 else 3) else if a k = 6 ∨ a k = 7 ∨ a k = 8 ∨ a k = 10 then 2 else if a k = 11 then 3 else if a k = 12 then 5 else 0) else 0)
    rw [ep]
    generalize yF a b c k = d at *
    generalize a k = t at *
    generalize b k = v at *
    generalize c k = n at *
    have hc : t = 0 ∨ t = 1 ∨ t = 3 ∨ t = 2 ∨ t = 4 ∨ t = 5 ∨ t = 6 ∨ t = 7 ∨ t = 8 ∨ t = 9 ∨ t = 10 ∨ t = 11 ∨ t = 12 := by omega
    have sw : ∀ d' : YD, d'.2.2.2 = d.2.2.2 → oPd d' nr s = oPd d nr s := fun d' k => by
      unfold oPd YD.pk YD.pa YD.ps YD.np
      rw [k]
    have z : ∀ p : Prop, [Decidable p] → oPd d nr s = oPd d nr s + (if p then (0 : Int) else 0) := fun p _ => by split <;> omega
    rcases hc with rfl | rfl | rfl | rfl | rfl | rfl | rfl | rfl | rfl | rfl | rfl | rfl | rfl
    · rw [show yI d 0 v n = ySeg d n v from rfl, sw _ (ySeg_p d n v)]; exact z _
    · rw [show yI d 1 v n = yLab d n from rfl, yLab_eq, if_pos (yb.2.1 rfl), oPd_p (d := yLn d n) n0]
      show oPd d nr s + (if d.cur = s then szf 7 n (nr d.np) else 0) = oPd d nr s + (if d.cur = s then (0 : Int) else 0)
      rfl
    · rw [show yI d 3 v n = yExt d n from rfl, sw _ (yExt_p d n)]; exact z _
    · exact z _
    · rw [show yI d 4 v n = yP d 0 v 0 from rfl, oPd_p n0]; rfl
    · rw [show yI d 5 v n = yP d 8 v 0 from rfl, oPd_p n0]; rfl
    · rw [show yI d 6 v n = yP d 1 v 0 from rfl, oPd_p n0]; rfl
    · rw [show yI d 7 v n = yP (yU d 1 n) 2 n v from rfl, oPd_p (d := yU d 1 n) n0]; rfl
    · rw [show yI d 8 v n = yP (yU d 1 n) 3 n 0 from rfl, oPd_p (d := yU d 1 n) n0]; rfl
    · rw [show yI d 9 v n = yP (yU d 3 n) 4 n 0 from rfl, oPd_p (d := yU d 3 n) n0]; rfl
    · rw [show yI d 10 v n = yP (yU d 2 n) 5 n v from rfl, oPd_p (d := yU d 2 n) n0]; rfl
    · rw [show yI d 11 v n = yP (yU d 3 n) 6 n 0 from rfl, oPd_p (d := yU d 3 n) n0]; rfl
    · rw [show yI d 12 v n = yP (yP (yP (yU d 4 n) 0 154 0) 2 n 0) 3 n 0 from rfl, oPd_p (d := yP (yP (yU d 4 n) 0 154 0) 2 n 0) (show 0 ≤ d.np + 1 + 1 by omega), oPd_p (d := yP (yU d 4 n) 0 154 0) (show 0 ≤ d.np + 1 by omega), oPd_p (d := yU d 4 n) n0]
      show oPd d nr s + (if d.cur = s then (1 : Int) else 0) + (if d.cur = s then (2 : Int) else 0) + (if d.cur = s then (2 : Int) else 0) = oPd d nr s + (if d.cur = s then (5 : Int) else 0)
      split <;> omega
theorem yF_lP {a b c : Int → Int} (n : Int) : ∀ k : Nat, (∀ j : Nat, j < k → 0 ≤ a j ∧ a j ≤ 12) → ¬ (yF a b c k).bad → lPd (yF a b c k) n = if lI a c n k < 0 then -1 else PI a b c (lI a c n k)
  | 0, _, _ => rfl
  | k + 1, h, nb => by
    have hk := h k (by omega)
    have e : yF a b c (k + 1) = yI (yF a b c k) (a k) (b k) (c k) := rfl
    have yb := yI_bad (d := yF a b c k) (t := a k) (v := b k) (n := c k) hk.1 hk.2 (by rw [← e]; exact nb)
    have ih := yF_lP n k (fun j hj => h j (by omega)) yb.1
    have n0 := yF_np (a := a) (b := b) (c := c) k (fun j hj => h j (by omega))
    have ep : PI a b c k = (yF a b c k).np := by unfold PI; rw [show ((k : Int)).toNat = k by omega]
    have el : lI a c n (k + 1) = if a k = 1 ∧ c k = n then (k : Int) else lI a c n k := rfl
    rw [e]
    by_cases t1 : a k = 1
    · rw [el, t1, show yI (yF a b c k) 1 (b k) (c k) = yLab (yF a b c k) (c k) from rfl, yLab_eq, if_pos (yb.2.1 t1), lPd_p (d := yLn (yF a b c k) (c k)) n0]
      by_cases q : c k = n
      · have c1 : (7 : Int) = 7 ∧ c k = n := ⟨rfl, q⟩
        have c2 : (1 : Int) = 1 ∧ c k = n := ⟨rfl, q⟩
        rw [if_pos c1, if_pos c2, if_neg (by omega), ep]; rfl
      · have c1 : ¬ ((7 : Int) = 7 ∧ c k = n) := fun z => q z.2
        have c2 : ¬ ((1 : Int) = 1 ∧ c k = n) := fun z => q z.2
        rw [if_neg c1, if_neg c2]; exact ih
    · have c2 : ¬ (a k = 1 ∧ c k = n) := fun z => t1 z.1
      rw [el, if_neg c2, ← ih]
      clear c2
      clear ih el e ep
      generalize yF a b c k = d at *
      generalize a k = t at *
      generalize b k = v at *
      generalize c k = n' at *
      have hc : t = 0 ∨ t = 3 ∨ t = 2 ∨ t = 4 ∨ t = 5 ∨ t = 6 ∨ t = 7 ∨ t = 8 ∨ t = 9 ∨ t = 10 ∨ t = 11 ∨ t = 12 := by omega
      have sw : ∀ d' : YD, d'.2.2.2 = d.2.2.2 → lPd d' n = lPd d n := fun d' k => by
        unfold lPd YD.pk YD.pa YD.np
        rw [k]
      have nn : ∀ x y : Int, x ≠ 7 → ¬ (x = 7 ∧ y = n) := fun x y h z => h z.1
      rcases hc with rfl | rfl | rfl | rfl | rfl | rfl | rfl | rfl | rfl | rfl | rfl | rfl
      · exact sw _ (ySeg_p d n' v)
      · exact sw _ (yExt_p d n')
      · rfl
      · rw [show yI d 4 v n' = yP d 0 v 0 from rfl, lPd_p n0, if_neg (nn _ _ (by decide))]
      · rw [show yI d 5 v n' = yP d 8 v 0 from rfl, lPd_p n0, if_neg (nn _ _ (by decide))]
      · rw [show yI d 6 v n' = yP d 1 v 0 from rfl, lPd_p n0, if_neg (nn _ _ (by decide))]
      · rw [show yI d 7 v n' = yP (yU d 1 n') 2 n' v from rfl, lPd_p (d := yU d 1 n') n0, if_neg (nn _ _ (by decide))]; rfl
      · rw [show yI d 8 v n' = yP (yU d 1 n') 3 n' 0 from rfl, lPd_p (d := yU d 1 n') n0, if_neg (nn _ _ (by decide))]; rfl
      · rw [show yI d 9 v n' = yP (yU d 3 n') 4 n' 0 from rfl, lPd_p (d := yU d 3 n') n0, if_neg (nn _ _ (by decide))]; rfl
      · rw [show yI d 10 v n' = yP (yU d 2 n') 5 n' v from rfl, lPd_p (d := yU d 2 n') n0, if_neg (nn _ _ (by decide))]; rfl
      · rw [show yI d 11 v n' = yP (yU d 3 n') 6 n' 0 from rfl, lPd_p (d := yU d 3 n') n0, if_neg (nn _ _ (by decide))]; rfl
      · rw [show yI d 12 v n' = yP (yP (yP (yU d 4 n') 0 154 0) 2 n' 0) 3 n' 0 from rfl, lPd_p (d := yP (yP (yU d 4 n') 0 154 0) 2 n' 0) (show 0 ≤ d.np + 1 + 1 by omega), if_neg (nn _ _ (by decide)), lPd_p (d := yP (yU d 4 n') 0 154 0) (show 0 ≤ d.np + 1 by omega), if_neg (nn _ _ (by decide)), lPd_p (d := yU d 4 n') n0, if_neg (nn _ _ (by decide))]; rfl
/-! X: labels and jumps among the pieces -/
theorem yF_so {a b c : Int → Int} : ∀ k : Nat, (∀ j : Nat, j < k → 0 ≤ a j ∧ a j ≤ 12) → ¬ (yF a b c k).bad → ∀ n : Int, (0 ≤ lI a c n k ↔ (yF a b c k).so n = 2) ∧ ((yF a b c k).so n = 2 → (yF a b c k).sg n = gI a b c (lI a c n k))
  | 0, _, _ => fun n => ⟨⟨fun q => absurd (show (0 : Int) ≤ -1 from q) (by decide), fun q => absurd (show (0 : Int) = 2 from q) (by decide)⟩, fun q => absurd (show (0 : Int) = 2 from q) (by decide)⟩
  | k + 1, h, nb => by
    have hk := h k (by omega)
    have e : yF a b c (k + 1) = yI (yF a b c k) (a k) (b k) (c k) := rfl
    have yb := yI_bad (d := yF a b c k) (t := a k) (v := b k) (n := c k) hk.1 hk.2 (by rw [← e]; exact nb)
    have ih := yF_so k (fun j hj => h j (by omega)) yb.1
    have eg : gI a b c k = (yI (yF a b c k) (a k) (b k) (c k)).cur := by
      unfold gI
      rw [show ((k : Int) + 1).toNat = k + 1 by omega]
      rfl
    intro n
    have el : lI a c n (k + 1) = if a k = 1 ∧ c k = n then (k : Int) else lI a c n k := rfl
    have ihn := ih n
    rw [e, el]
    have hc : a k = 0 ∨ a k = 1 ∨ a k = 3 ∨ (a k ≠ 0 ∧ a k ≠ 1 ∧ a k ≠ 3) := by omega
    rcases hc with t | t | t | ⟨t0, t1, t3⟩
    · rw [t, if_neg (fun z => absurd z.1 (by decide)), show yI (yF a b c k) 0 (b k) (c k) = ySeg (yF a b c k) (c k) (b k) from rfl, ySeg_eq]
      have nb' := nb
      rw [e, t, show yI (yF a b c k) 0 (b k) (c k) = ySeg (yF a b c k) (c k) (b k) from rfl, ySeg_eq] at nb'
      split at nb'
      · exact absurd trivial nb'
      · rename_i q1
        rw [if_neg q1]
        split at nb'
        · rename_i q2
          rw [if_pos q2]
          show (0 ≤ lI a c n k ↔ zu (yF a b c k).so (c k) 1 n = 2) ∧ (zu (yF a b c k).so (c k) 1 n = 2 → zu (yF a b c k).sg (c k) (yF a b c k).ns n = gI a b c (lI a c n k))
          by_cases en : n = c k
          · rw [en, pu_eq]
            rw [en] at ihn
            exact ⟨⟨fun q => by have := ihn.1.mp q; omega, fun q => absurd q (by decide)⟩, fun q => absurd q (by decide)⟩
          · rw [pu_ne en, pu_ne en]; exact ihn
        · rename_i q2
          rw [if_neg q2]
          exact ihn
    · have s0 := yb.2.1 t
      have ec : gI a b c k = (yF a b c k).cur := by
        rw [eg, t, show yI (yF a b c k) 1 (b k) (c k) = yLab (yF a b c k) (c k) from rfl]
        exact (yLab_u _ _).2
      rw [t, show yI (yF a b c k) 1 (b k) (c k) = yLab (yF a b c k) (c k) from rfl, yLab_eq, if_pos s0]
      show (0 ≤ (if (1 : Int) = 1 ∧ c k = n then (k : Int) else lI a c n k) ↔ zu (yF a b c k).so (c k) 2 n = 2) ∧ (zu (yF a b c k).so (c k) 2 n = 2 → zu (yF a b c k).sg (c k) (yF a b c k).cur n = gI a b c (if (1 : Int) = 1 ∧ c k = n then (k : Int) else lI a c n k))
      by_cases en : n = c k
      · rw [en, pu_eq, pu_eq, if_pos ⟨rfl, rfl⟩]
        exact ⟨⟨fun _ => rfl, fun _ => by omega⟩, fun _ => ec.symm⟩
      · rw [pu_ne en, pu_ne en, if_neg (fun z => en z.2.symm)]; exact ihn
    · have s0 := yb.2.2 t
      rw [t, if_neg (fun z => absurd z.1 (by decide)), show yI (yF a b c k) 3 (b k) (c k) = yExt (yF a b c k) (c k) from rfl, yExt_eq, if_pos s0]
      show (0 ≤ lI a c n k ↔ zu (yF a b c k).so (c k) 3 n = 2) ∧ (zu (yF a b c k).so (c k) 3 n = 2 → (yF a b c k).sg n = gI a b c (lI a c n k))
      by_cases en : n = c k
      · rw [en, pu_eq]
        rw [en] at ihn
        exact ⟨⟨fun q => by have := ihn.1.mp q; omega, fun q => absurd q (by decide)⟩, fun q => absurd q (by decide)⟩
      · rw [pu_ne en]; exact ihn
    · have y := (yI_o (d := yF a b c k) (t := a k) (v := b k) (n := c k) hk.1 hk.2 t0 t1 t3).1
      rw [if_neg (fun z => t1 z.1)]
      unfold YD.so YD.sg at ihn ⊢
      rw [y]; exact ihn
/-- the piece of a label, a jump, a branch -/
def kI (t : Int) : Int := if t = 1 then 7 else if t = 9 then 4 else 5
theorem yF_fw {a b c : Int → Int} : ∀ k : Nat, (∀ j : Nat, j < k → 0 ≤ a j ∧ a j ≤ 12) → ¬ (yF a b c k).bad → ∀ j : Nat, j < k → (a j = 1 ∨ a j = 9 ∨ a j = 10) → PI a b c j < (yF a b c k).np ∧ (yF a b c k).pk (PI a b c j) = kI (a j) ∧ (yF a b c k).pa (PI a b c j) = c j ∧ (yF a b c k).ps (PI a b c j) = gI a b c j
  | 0, _, _ => fun j hj => absurd hj (Nat.not_lt_zero j)
  | k + 1, h, nb => by
    have hk := h k (by omega)
    have e : yF a b c (k + 1) = yI (yF a b c k) (a k) (b k) (c k) := rfl
    have yb := yI_bad (d := yF a b c k) (t := a k) (v := b k) (n := c k) hk.1 hk.2 (by rw [← e]; exact nb)
    have ih := yF_fw k (fun j hj => h j (by omega)) yb.1
    have eg : gI a b c k = (yI (yF a b c k) (a k) (b k) (c k)).cur := by
      unfold gI
      rw [show ((k : Int) + 1).toNat = k + 1 by omega]
      rfl
    have ep : PI a b c k = (yF a b c k).np := by unfold PI; rw [show ((k : Int)).toNat = k by omega]
    have pre := yI_pre (yF a b c k) (a k) (b k) (c k) hk.1 hk.2
    intro j hj t
    by_cases ej : j = k
    · rw [ej] at t ⊢
      rw [e, eg, ep]
      rcases t with t | t | t
      · rw [t, show yI (yF a b c k) 1 (b k) (c k) = yLab (yF a b c k) (c k) from rfl, yLab_eq, if_pos (yb.2.1 t)]
        exact ⟨show (yF a b c k).np < (yF a b c k).np + 1 by omega, pu_eq, pu_eq, pu_eq⟩
      · rw [t]
        exact ⟨show (yF a b c k).np < (yF a b c k).np + 1 by omega, pu_eq, pu_eq, pu_eq⟩
      · rw [t]
        exact ⟨show (yF a b c k).np < (yF a b c k).np + 1 by omega, pu_eq, pu_eq, pu_eq⟩
    · obtain ⟨x1, x2, x3, x4⟩ := ih j (by omega) t
      obtain ⟨y1, y2, y3, y4⟩ := pre.2 (PI a b c j) x1
      have p1 := pre.1
      rw [e]
      exact ⟨by omega, y1.trans x2, y2.trans x3, y4.trans x4⟩
theorem yF_bw {a b c : Int → Int} : ∀ k : Nat, (∀ j : Nat, j < k → 0 ≤ a j ∧ a j ≤ 12) → ∀ p : Int, 0 ≤ p → p < (yF a b c k).np → ((yF a b c k).pk p = 4 ∨ (yF a b c k).pk p = 5) → ∃ j : Nat, j < k ∧ ((a j = 9 ∧ (yF a b c k).pk p = 4) ∨ (a j = 10 ∧ (yF a b c k).pk p = 5)) ∧ p = PI a b c j
  | 0, _ => fun p p0 p1 => by have p1' : p < 0 := p1; omega
  | k + 1, h => by
    have hk := h k (by omega)
    have e : yF a b c (k + 1) = yI (yF a b c k) (a k) (b k) (c k) := rfl
    have ih := yF_bw (a := a) (b := b) (c := c) k (fun j hj => h j (by omega))
    have ep : PI a b c k = (yF a b c k).np := by unfold PI; rw [show ((k : Int)).toNat = k by omega]
    have pre := yI_pre (yF a b c k) (a k) (b k) (c k) hk.1 hk.2
    intro p p0 p1 t
    by_cases q : p < (yF a b c k).np
    · obtain ⟨y1, -⟩ := pre.2 p q
      rw [← e] at y1
      rw [y1] at t ⊢
      obtain ⟨j, j1, j2, j3⟩ := ih p p0 q t
      exact ⟨j, by omega, j2, j3⟩
    · rw [e] at p1 t ⊢
      refine ⟨k, by omega, ?_⟩
      rw [ep]
      clear ih pre ep e
      generalize yF a b c k = d at *
      generalize a k = t' at *
      generalize b k = v at *
      generalize c k = n at *
      have hc : t' = 0 ∨ t' = 1 ∨ t' = 3 ∨ t' = 2 ∨ t' = 4 ∨ t' = 5 ∨ t' = 6 ∨ t' = 7 ∨ t' = 8 ∨ t' = 9 ∨ t' = 10 ∨ t' = 11 ∨ t' = 12 := by omega
      have one : ∀ (d' : YD) (x y z : Int), d'.np = d.np → p < (yP d' x y z).np → p = d.np ∧ (yP d' x y z).pk p = x := by
        intro d' x y z en hp
        have hp' : p < d'.np + 1 := hp
        have pe : p = d.np := by omega
        refine ⟨pe, ?_⟩
        show zu d'.pk d'.np x p = x
        rw [pe, ← en, pu_eq]
      have np0 : ∀ d' : YD, d'.2.2.2 = d.2.2.2 → d'.np = d.np := fun d' k => by unfold YD.np; rw [k]
      rcases hc with rfl | rfl | rfl | rfl | rfl | rfl | rfl | rfl | rfl | rfl | rfl | rfl | rfl
      · rw [show yI d 0 v n = ySeg d n v from rfl, np0 _ (ySeg_p d n v)] at p1; omega
      · rw [show yI d 1 v n = yLab d n from rfl, yLab_eq] at p1 t
        by_cases s0 : d.so n = 0
        · rw [if_pos s0] at p1 t
          have := one (yLn d n) 7 n 0 rfl p1
          omega
        · rw [if_neg s0, np0 (yB d) rfl] at p1; omega
      · rw [show yI d 3 v n = yExt d n from rfl, np0 _ (yExt_p d n)] at p1; omega
      · exact absurd p1 q
      · have := one d 0 v 0 rfl p1
        have t2 : (yP d 0 v 0).pk p = 4 ∨ (yP d 0 v 0).pk p = 5 := t
        omega
      · have := one d 8 v 0 rfl p1
        have t2 : (yP d 8 v 0).pk p = 4 ∨ (yP d 8 v 0).pk p = 5 := t
        omega
      · have := one d 1 v 0 rfl p1
        have t2 : (yP d 1 v 0).pk p = 4 ∨ (yP d 1 v 0).pk p = 5 := t
        omega
      · have := one (yU d 1 n) 2 n v rfl p1
        have t2 : (yP (yU d 1 n) 2 n v).pk p = 4 ∨ (yP (yU d 1 n) 2 n v).pk p = 5 := t
        omega
      · have := one (yU d 1 n) 3 n 0 rfl p1
        have t2 : (yP (yU d 1 n) 3 n 0).pk p = 4 ∨ (yP (yU d 1 n) 3 n 0).pk p = 5 := t
        omega
      · have := one (yU d 3 n) 4 n 0 rfl p1
        exact ⟨Or.inl ⟨rfl, this.2⟩, this.1⟩
      · have := one (yU d 2 n) 5 n v rfl p1
        exact ⟨Or.inr ⟨rfl, this.2⟩, this.1⟩
      · have := one (yU d 3 n) 6 n 0 rfl p1
        have t2 : (yP (yU d 3 n) 6 n 0).pk p = 4 ∨ (yP (yU d 3 n) 6 n 0).pk p = 5 := t
        omega
      · exfalso
        have p2 : p < d.np + 1 + 1 + 1 := p1
        have t2 : zu (zu (zu d.pk d.np 0) (d.np + 1) 2) (d.np + 1 + 1) 3 p = 4 ∨ zu (zu (zu d.pk d.np 0) (d.np + 1) 2) (d.np + 1 + 1) 3 p = 5 := t
        by_cases c1 : p = d.np + 1 + 1
        · rw [c1, pu_eq] at t2; omega
        · rw [pu_ne c1] at t2
          by_cases c2 : p = d.np + 1
          · rw [c2, pu_eq] at t2; omega
          · rw [pu_ne c2, show p = d.np by omega, pu_eq] at t2; omega
/-! X: the reference lays its pieces, exactly -/
/-- laid, up to piece k -/
def Lx (σ τ : ZS) (k : Nat) : Prop := (∀ s : Int, 0 ≤ s → s < zI σ 0 34 → zA τ 0 36 s = oP (zA σ 0 24) (zA σ 0 25) (zA σ 0 28) (zA σ 0 30) s k) ∧ (∀ p : Int, 0 ≤ p → p < k → zA τ 0 29 p = oP (zA σ 0 24) (zA σ 0 25) (zA σ 0 28) (zA σ 0 30) (zA σ 0 28 p) p.toNat) ∧ (∀ n : Int, 0 ≤ lP (zA σ 0 24) (zA σ 0 25) n k → zA τ 0 16 n = oP (zA σ 0 24) (zA σ 0 25) (zA σ 0 28) (zA σ 0 30) (zA σ 0 28 (lP (zA σ 0 24) (zA σ 0 25) n k)) (lP (zA σ 0 24) (zA σ 0 25) n k).toNat)
theorem x_lay {σ : ZS} {Q : ZS → Prop} (h3 : G3 σ) (hO : OFs σ) (hS : Sg σ) (hQ : ∀ τ : ZS, fr [] [16, 29, 36] σ τ → OFs τ → Lyp τ → Lx σ τ (zI σ 0 31).toNat → Q τ) : wpX11_lay σ Q := by
  obtain ⟨hp, hs, hg⟩ := hS
  unfold wpX11_lay wpX11_lay_2
  refine lfp1_ind (fun v _ => (80 - v).toNat) (fun v τ => (0 ≤ v ∧ v ≤ zI σ 0 34) ∧ fr [] [36] σ τ ∧ (∀ j : Int, 0 ≤ j → j < v → zA τ 0 36 j = 0)) ?_ ⟨by omega, fr.rf, fun j a b => by omega⟩
  intro P v τ hI hP
  obtain ⟨hv, hf, hz⟩ := hI
  have i34 := hf.1 34 (by decide)
  unfold wpbX11_lay_2
  rw [i34]
  refine ⟨by omega, by omega, fun q => ?_, fun q => ⟨by omega, hP _ _ ⟨by omega, hf.ta (by decide), fun j j0 j1 => ?_⟩ (by omega)⟩⟩
  rotate_left
  · show zu (zA τ 0 36) v 0 j = 0
    by_cases e : j = v
    · rw [e, pu_eq]
    · rw [pu_ne e]; exact hz j j0 (by omega)
  have hsum0 : psum (zA τ 0 36) (zI σ 0 34).toNat = 0 := by
    rw [psum_ext (g := fun _ => 0) _ (fun j a b => hz j a (by omega))]
    generalize (zI σ 0 34).toNat = n
    induction n with
    | zero => rfl
    | succ n ih => show psum (fun _ => 0) n + 0 = 0; omega
  have hf3 : fr [] [16, 29, 36] σ τ := hf.up (by decide) (by decide)
  unfold wpX11_lay_25
  refine lfp1_ind (fun k _ => (1200 - k).toNat) (fun k υ => (0 ≤ k ∧ k ≤ zI σ 0 31) ∧ fr [] [16, 29, 36] σ υ ∧ OFs υ ∧ (∀ s : Int, 0 ≤ s → s < zI σ 0 34 → 0 ≤ zA υ 0 36 s ∧ zA υ 0 36 s ≤ 64 * k) ∧ (∀ p : Int, 0 ≤ p → p < k → 0 ≤ zA υ 0 29 p ∧ zA υ 0 29 p ≤ 62000 ∧ zA υ 0 29 p + szp σ p ≤ zA υ 0 36 (zA σ 0 28 p)) ∧ psum (zA υ 0 36) (zI σ 0 34).toNat = psum (szp σ) k.toNat ∧ Lx σ υ k.toNat) ?_ ⟨by omega, hf3, (by unfold OFs; rw [hf.2 16 (by decide)]; exact hO), fun s a b => by rw [hz s a (by omega)]; omega, fun p a b => by omega, hsum0, fun s a b => hz s a (by omega), fun p a b => absurd (show p < 0 from b) (by omega), fun n a => absurd (show (0 : Int) ≤ -1 from a) (by decide)⟩
  intro P2 k υ hI2 hP2
  obtain ⟨hk, hfu, hOu, hsz, hat, hsum, lx1, lx2, lx3⟩ := hI2
  have j31 := hfu.1 31 (by decide)
  have a24 := hfu.2 24 (by decide); have a25 := hfu.2 25 (by decide); have a28 := hfu.2 28 (by decide); have a30 := hfu.2 30 (by decide)
  have hszp := szp_eq a24 a25 a30
  have h3u : G3 υ := by unfold G3; rw [a24, a25, hfu.2 26 (by decide), hfu.2 27 (by decide), a28, a30]; exact h3
  unfold wpbX11_lay_25
  rw [j31, a28, a24, a25]
  refine ⟨by omega, by omega, fun q2 => hQ υ hfu hOu ⟨?_, ?_, ?_⟩ ?_, fun q2 => ?_⟩
  · intro s a b
    rw [hfu.1 34 (by decide)] at b
    have := hsz s a b; omega
  · intro p a b
    rw [j31] at b
    rw [a28, hszp]
    exact hat p a (by omega)
  · rw [hfu.1 34 (by decide), j31, hszp, hsum, show k = zI σ 0 31 by omega]
  · rw [show zI σ 0 31 = k by omega]; exact ⟨lx1, lx2, lx3⟩
  · obtain ⟨q1, q2', q3, q4, q5, q6, q7, q8⟩ := h3 k hk.1 (by omega)
    have hseg := hg k hk.1 (by omega)
    have hsk := hsz (zA σ 0 28 k) hseg.1 hseg.2
    have hzb := szp_bd h3 hk.1 (by omega)
    have hnn : ∀ s : Int, 0 ≤ s → s < ((zI σ 0 34).toNat : Int) → 0 ≤ zA υ 0 36 s := fun s a b => (hsz s a (by omega)).1
    have ek : (k + 1).toNat = k.toNat + 1 := by omega
    have ekk : ((k.toNat : Nat) : Int) = k := by omega
    have os : ∀ s : Int, oP (zA σ 0 24) (zA σ 0 25) (zA σ 0 28) (zA σ 0 30) s (k + 1).toNat = oP (zA σ 0 24) (zA σ 0 25) (zA σ 0 28) (zA σ 0 30) s k.toNat + (if zA σ 0 28 k = s then szp σ k else 0) := by
      intro s
      rw [ek]
      show oP (zA σ 0 24) (zA σ 0 25) (zA σ 0 28) (zA σ 0 30) s k.toNat + (if zA σ 0 28 (k.toNat : Int) = s then szf (zA σ 0 24 (k.toNat : Int)) (zA σ 0 25 (k.toNat : Int)) (zA σ 0 30 (k.toNat : Int)) else 0) = _
      rw [ekk]; rfl
    have ls : ∀ n : Int, lP (zA σ 0 24) (zA σ 0 25) n (k + 1).toNat = if zA σ 0 24 k = 7 ∧ zA σ 0 25 k = n then k else lP (zA σ 0 24) (zA σ 0 25) n k.toNat := by
      intro n
      rw [ek]
      show (if zA σ 0 24 (k.toNat : Int) = 7 ∧ zA σ 0 25 (k.toNat : Int) = n then (k.toNat : Int) else lP (zA σ 0 24) (zA σ 0 25) n k.toNat) = _
      rw [ekk]
    -- the step
    have go : ∀ ω : ZS, fr [] [16, 29, 36] σ ω → OFs ω → zA ω 0 36 = zA υ 0 36 → zA ω 0 29 = zu (zA υ 0 29) k (zA υ 0 36 (zA σ 0 28 k)) → (zA σ 0 24 k = 7 → zA ω 0 16 = zu (zA υ 0 16) (zA σ 0 25 k) (zA υ 0 36 (zA σ 0 28 k))) → (zA σ 0 24 k ≠ 7 → zA ω 0 16 = zA υ 0 16) → wpX11_lay_80 P2 k (zA σ 0 28 k) ω Q := by
      intro ω hfw hOw e36 e29 e16 n16
      have b24 := hfw.2 24 (by decide); have b25 := hfw.2 25 (by decide); have b30 := hfw.2 30 (by decide); have b28 := hfw.2 28 (by decide)
      have hszw := szp_eq b24 b25 b30
      have h3w : G3 ω := by unfold G3; rw [b24, b25, hfw.2 26 (by decide), hfw.2 27 (by decide), b28, b30]; exact h3
      unfold wpX11_lay_80
      refine ⟨by omega, s_sizeOf h3w (by omega) ?_⟩
      rw [hszw, e36]
      have c36 : zA (zsA ω 0 36 (zA σ 0 28 k) (zA υ 0 36 (zA σ 0 28 k) + szp σ k)) 0 36 = zu (zA υ 0 36) (zA σ 0 28 k) (zA υ 0 36 (zA σ 0 28 k) + szp σ k) := by
        show zu (zA ω 0 36) _ _ = _; rw [e36]
      refine hP2 _ _ ⟨by omega, hfw.ta (by decide), hOw, fun s a b => ?_, fun p a b => ?_, ?_, fun s a b => ?_, fun p a b => ?_, fun n a => ?_⟩ (by omega)
      · rw [c36]
        have := hsz s a b
        by_cases e : s = zA σ 0 28 k
        · rw [e, pu_eq]; omega
        · rw [pu_ne e]; omega
      · rw [c36]
        show 0 ≤ zA ω 0 29 p ∧ zA ω 0 29 p ≤ 62000 ∧ zA ω 0 29 p + szp σ p ≤ _
        rw [e29]
        by_cases e : p = k
        · rw [e, pu_eq, pu_eq]; omega
        · rw [pu_ne e]
          have hh := hat p a (by omega)
          refine ⟨hh.1, hh.2.1, ?_⟩
          by_cases e2 : zA σ 0 28 p = zA σ 0 28 k
          · rw [e2, pu_eq]; rw [e2] at hh; omega
          · rw [pu_ne e2]; exact hh.2.2
      · rw [c36, psum_zu _ hseg.1 (by omega), hsum, show (k + 1).toNat = k.toNat + 1 by omega]
        show psum (szp σ) k.toNat + szp σ k = psum (szp σ) k.toNat + szp σ ((k.toNat : Nat) : Int)
        rw [show ((k.toNat : Nat) : Int) = k by omega]
      · rw [c36, os]
        by_cases e : s = zA σ 0 28 k
        · rw [e, pu_eq, if_pos rfl, lx1 _ hseg.1 hseg.2]
        · rw [pu_ne e, if_neg (fun z => e z.symm), lx1 s a b]; omega
      · show zA ω 0 29 p = _
        rw [e29]
        by_cases e : p = k
        · rw [e, pu_eq]; exact lx1 _ hseg.1 hseg.2
        · rw [pu_ne e]; exact lx2 p a (by omega)
      · show zA ω 0 16 n = _
        rw [ls] at a ⊢
        by_cases c7 : zA σ 0 24 k = 7
        · rw [e16 c7]
          by_cases en : zA σ 0 25 k = n
          · rw [if_pos ⟨c7, en⟩, ← en, pu_eq]; exact lx1 _ hseg.1 hseg.2
          · rw [if_neg (fun z => en z.2)] at a ⊢
            rw [pu_ne (fun z => en z.symm)]; exact lx3 n a
        · rw [n16 c7]
          rw [if_neg (fun z => c7 z.1)] at a ⊢
          exact lx3 n a
    refine ⟨by omega, by omega, by omega, fun n7 => go _ (hfu.ta (by decide)) hOu rfl rfl (fun q => absurd q n7) (fun _ => rfl), fun e7 => ⟨q2' (by omega) (by omega), go _ ((hfu.ta (by decide)).ta (by decide)) ?_ rfl rfl (fun _ => rfl) (fun q => absurd e7 q)⟩⟩
    intro n n0 n1
    show 0 ≤ zu (zA υ 0 16) (zA σ 0 25 k) (zA υ 0 36 (zA σ 0 28 k)) n ∧ zu (zA υ 0 16) (zA σ 0 25 k) (zA υ 0 36 (zA σ 0 28 k)) n ≤ 62000
    by_cases e : n = zA σ 0 25 k
    · rw [e, pu_eq]; omega
    · rw [pu_ne e]; exact hOu n n0 n1
/-- the pieces of the reference are the walk's -/
def PX (a b c : Int → Int) (N : Nat) (σ : ZS) : Prop := (∀ j : Nat, j < N → 0 ≤ a j ∧ a j ≤ 12) ∧ ¬ (yF a b c N).bad ∧ YP σ (yF a b c N)
/-- jumps that are near, by items -/
def xR (a b c : Int → Int) (σ : ZS) : Int → Int := fun i => zA σ 0 30 (PI a b c i)
theorem PX.k {a b c : Int → Int} {N : Nat} {σ τ : ZS} (h : PX a b c N σ) (e31 : zI τ 0 31 = zI σ 0 31) (e24 : zA τ 0 24 = zA σ 0 24) (e25 : zA τ 0 25 = zA σ 0 25) (e26 : zA τ 0 26 = zA σ 0 26) (e28 : zA τ 0 28 = zA σ 0 28) : PX a b c N τ := ⟨h.1, h.2.1, h.2.2.k e31 e24 e25 e26 e28⟩
/-- bytes before item k, in the reference's arrays -/
theorem PX.oP {a b c : Int → Int} {N : Nat} {σ : ZS} (h : PX a b c N σ) (s : Int) (k : Nat) (hk : k ≤ N) : oP (zA σ 0 24) (zA σ 0 25) (zA σ 0 28) (zA σ 0 30) s (PI a b c k).toNat = oS a b (gI a b c) (xR a b c σ) s k := by
  obtain ⟨ht, hb, e31, hp⟩ := h
  have pre := yF_pre (a := a) (b := b) (c := c) (m := k) N hk ht
  have nbk : ∀ m : Nat, m ≤ N → ¬ (yF a b c (N - m)).bad := by
    intro m
    induction m with
    | zero => intro _; exact hb
    | succ m ih =>
      intro hm
      have h1 := ih (by omega)
      rw [show N - m = (N - (m + 1)) + 1 by omega] at h1
      exact (yI_bad (ht _ (by omega)).1 (ht _ (by omega)).2 (show ¬ (yI _ _ _ _).bad from h1)).1
  have nb : ¬ (yF a b c k).bad := by
    have := nbk (N - k) (by omega)
    rw [show N - (N - k) = k by omega] at this
    exact this
  have w := yF_oP (a := a) (b := b) (c := c) (zA σ 0 30) s k (fun j hj => ht j (by omega)) nb
  have n0 := yF_np (a := a) (b := b) (c := c) k (fun j hj => ht j (by omega))
  have ep : PI a b c k = (yF a b c k).np := by unfold PI; rw [show ((k : Int)).toNat = k by omega]
  rw [ep]
  unfold xR
  rw [← w]
  unfold oPd
  have p1 := pre.1
  refine oP_cg _ (fun j hj => ?_)
  obtain ⟨x1, x2, x3, x4⟩ := hp j (by omega) (by omega)
  obtain ⟨y1, y2, y3, y4⟩ := pre.2 j (by omega)
  exact ⟨x1.trans y1, x2.trans y2, x4.trans y4⟩
theorem PX.np {a b c : Int → Int} {N : Nat} {σ : ZS} (h : PX a b c N σ) : zI σ 0 31 = PI a b c N := by
  obtain ⟨ht, hb, e31, hp⟩ := h
  rw [e31]
  unfold PI
  rw [show ((N : Int)).toNat = N by omega]
theorem PX.lP {a b c : Int → Int} {N : Nat} {σ : ZS} (h : PX a b c N σ) (n : Int) : lP (zA σ 0 24) (zA σ 0 25) n (zI σ 0 31).toNat = if lI a c n N < 0 then -1 else PI a b c (lI a c n N) := by
  obtain ⟨ht, hb, e31, hp⟩ := h
  rw [← yF_lP n N ht hb, e31]
  unfold lPd
  refine lP_cg _ (fun j hj => ?_)
  obtain ⟨x1, x2, x3, x4⟩ := hp j (by omega) (by omega)
  exact ⟨x1, x2⟩
/-- where an item's piece stands, in the reference's arrays -/
theorem PX.fw {a b c : Int → Int} {N : Nat} {σ : ZS} (h : PX a b c N σ) (j : Int) (j0 : 0 ≤ j) (hj : j < N) (t : a j = 1 ∨ a j = 9 ∨ a j = 10) : (0 ≤ PI a b c j ∧ PI a b c j < zI σ 0 31) ∧ zA σ 0 24 (PI a b c j) = kI (a j) ∧ zA σ 0 25 (PI a b c j) = c j ∧ zA σ 0 28 (PI a b c j) = gI a b c j := by
  obtain ⟨ht, hb, e31, hp⟩ := h
  have ej : ((j.toNat : Nat) : Int) = j := by omega
  have w := yF_fw (a := a) (b := b) (c := c) N ht hb j.toNat (by omega) (by rw [ej]; exact t)
  rw [ej] at w
  have n0 : 0 ≤ PI a b c j := by
    unfold PI
    exact yF_np _ (fun i hi => ht i (by omega))
  obtain ⟨x1, x2, x3, x4⟩ := hp (PI a b c j) n0 w.1
  exact ⟨⟨n0, by rw [e31]; exact w.1⟩, x1.trans w.2.1, x2.trans w.2.2.1, x4.trans w.2.2.2⟩
theorem PX.bw {a b c : Int → Int} {N : Nat} {σ : ZS} (h : PX a b c N σ) (p : Int) (p0 : 0 ≤ p) (p1 : p < zI σ 0 31) (t : zA σ 0 24 p = 4 ∨ zA σ 0 24 p = 5) : ∃ j : Int, 0 ≤ j ∧ j < N ∧ ((a j = 9 ∧ zA σ 0 24 p = 4) ∨ (a j = 10 ∧ zA σ 0 24 p = 5)) ∧ p = PI a b c j := by
  obtain ⟨ht, hb, e31, hp⟩ := h
  obtain ⟨x1, x2, x3, x4⟩ := hp p p0 (by rw [← e31]; exact p1)
  rw [x1] at t ⊢
  obtain ⟨j, j1, j2, j3⟩ := yF_bw (a := a) (b := b) (c := c) N ht p p0 (by rw [← e31]; exact p1) t
  exact ⟨j, by omega, by omega, j2, j3⟩
/-- the reference's distance is the item's -/
theorem Lx.d {a b c r : Int → Int} {N : Nat} {σ τ : ZS} {j : Int} (h : PX a b c N σ) (hl : Lx σ τ (zI σ 0 31).toNat) (j0 : 0 ≤ j) (hj : j < N) (t : a j = 9 ∨ a j = 10) (hh : 0 ≤ lI a c (c j) N ∧ gI a b c (lI a c (c j) N) = gI a b c j) : zA τ 0 16 (c j) - zA τ 0 29 (PI a b c j) - szp σ (PI a b c j) = dS a b c (gI a b c) (xR a b c σ) N j := by
  obtain ⟨f1, f2, f3, f4⟩ := h.fw j j0 hj (by omega)
  have lb : 0 ≤ lI a c (c j) N ∧ lI a c (c j) N < N ∧ a (lI a c (c j) N) = 1 ∧ c (lI a c (c j) N) = c j := by
    rcases lI_bd (a := a) (c := c) (n := c j) N with q | q
    · omega
    · exact q
  obtain ⟨l1, l2, l3, l4⟩ := h.fw (lI a c (c j) N) lb.1 lb.2.1 (Or.inl lb.2.2.1)
  have el := h.lP (c j)
  rw [if_neg (by omega)] at el
  have x16 := hl.2.2 (c j) (by rw [el]; exact l1.1)
  rw [el, l4, hh.2] at x16
  have x29 := hl.2.1 (PI a b c j) f1.1 (by omega)
  rw [f4] at x29
  have w1 := h.oP (gI a b c j) (lI a c (c j) N).toNat (by omega)
  have w2 := h.oP (gI a b c j) j.toNat (by omega)
  rw [show (((lI a c (c j) N).toNat : Nat) : Int) = lI a c (c j) N by omega] at w1
  rw [show ((j.toNat : Nat) : Int) = j by omega] at w2
  rw [x16, x29, w1, w2]
  have es : szp σ (PI a b c j) = sI a b (xR a b c σ) j := by
    unfold szp sI xR
    rw [f2, f3]
    rcases t with t | t
    · rw [t]; rfl
    · rw [t]; rfl
  rw [es]
  rfl
/-! X: the reference settles its jumps: the least closed set -/
theorem Lx.k {σ σ' τ τ' : ZS} {k : Nat} (h : Lx σ τ k) (e34 : zI σ' 0 34 = zI σ 0 34) (e24 : zA σ' 0 24 = zA σ 0 24) (e25 : zA σ' 0 25 = zA σ 0 25) (e28 : zA σ' 0 28 = zA σ 0 28) (e30 : zA σ' 0 30 = zA σ 0 30) (e36 : zA τ' 0 36 = zA τ 0 36) (e29 : zA τ' 0 29 = zA τ 0 29) (e16 : zA τ' 0 16 = zA τ 0 16) : Lx σ' τ' k := by
  unfold Lx; rw [e34, e24, e25, e28, e30, e36, e29, e16]; exact h
theorem x_settle {a b c r : Int → Int} {N : Nat} {σ : ZS} {Q : ZS → Prop} (h1 : G1 σ) (h3 : G3 σ) (hO : OFs σ) (hS : Sg σ) (hX : PX a b c N σ) (hr : ∀ j : Int, 0 ≤ j → j < N → a j = 9 → zA σ 0 13 (c j) = r (c j)) (hj : HJx a b c (gI a b c) r N) (hQ : ∀ τ : ZS, fr [] [16, 29, 30, 36] σ τ → G3 τ → OFs τ → Lyp τ → (∀ j : Int, 0 ≤ j → j < zI σ 0 31 → zA σ 0 24 j = 4 → zA σ 0 13 (zA σ 0 25 j) = 3 → zA τ 0 30 j = 1) → Lx τ τ (zI σ 0 31).toNat → Cl a b c (gI a b c) r (xR a b c τ) N → Le a b c (gI a b c) r (xR a b c τ) N → Q τ) : wpX11_settle σ Q := by
  have hS0 := hS
  obtain ⟨hp, hs, hg⟩ := hS
  unfold wpX11_settle wpX11_settle_2
  refine lfp1_ind (fun v _ => (1200 - v).toNat) (fun v τ => (0 ≤ v ∧ v ≤ zI σ 0 31) ∧ fr [] [30] σ τ ∧ G3 τ ∧ (∀ j : Int, 0 ≤ j → j < v → zA σ 0 24 j = 4 → zA σ 0 13 (zA σ 0 25 j) = 3 → zA τ 0 30 j = 1) ∧ (∀ j : Int, 0 ≤ j → j < v → zA σ 0 24 j = 4 → zA τ 0 30 j ≠ 0 → zA σ 0 13 (zA σ 0 25 j) = 3)) ?_ ⟨by omega, fr.rf, h3, fun j a b => by omega, fun j a b => by omega⟩
  intro P v τ hI hP
  obtain ⟨hv, hf, h3t, hne, hnx⟩ := hI
  have i31 := hf.1 31 (by decide)
  have a24 := hf.2 24 (by decide); have a25 := hf.2 25 (by decide); have a13 := hf.2 13 (by decide)
  have f45 : ∀ s2 : Int, 0 ≤ s2 → s2 ≤ 1 → v < zI σ 0 31 → (zA σ 0 24 v = 4 → zA σ 0 13 (zA σ 0 25 v) = 3 → s2 = 1) → (zA σ 0 24 v = 4 → s2 ≠ 0 → zA σ 0 13 (zA σ 0 25 v) = 3) → wpX11_settle_45 P v s2 v τ Q := by
    intro s2 z0 z1 hlt hx hx2
    unfold wpX11_settle_45
    refine ⟨by omega, ⟨z0, z1⟩, hP _ _ ⟨by omega, hf.ta (by decide), G3_near h3t ⟨z0, z1⟩, fun j j0 j1 j2 j3 => ?_, fun j j0 j1 j2 j3 => ?_⟩ (by omega)⟩
    · show zu (zA τ 0 30) v s2 j = 1
      by_cases e : j = v
      · rw [e, pu_eq]; rw [e] at j2 j3; exact hx j2 j3
      · rw [pu_ne e]; exact hne j j0 (by omega) j2 j3
    · have j3' : zu (zA τ 0 30) v s2 j ≠ 0 := j3
      by_cases e : j = v
      · rw [e, pu_eq] at j3'; rw [e] at j2 ⊢; exact hx2 j2 j3'
      · rw [pu_ne e] at j3'; exact hnx j j0 (by omega) j2 j3'
  unfold wpbX11_settle_2 wpX11_settle_44
  rw [i31, a24, a25, a13]
  refine ⟨by omega, by omega, fun hall => ?_, fun q => ?_⟩
  rotate_left
  · obtain ⟨q1, q2, q3, q4, q5, q6, q7, q8⟩ := h3 v hv.1 (by omega)
    refine ⟨by omega, by omega, fun n4 => f45 0 (by decide) (by decide) (by omega) (fun e => absurd e n4) (fun e => absurd e n4), fun e4 => ?_⟩
    have hn := q2 (by omega) (by omega)
    have := (h1 (zA σ 0 25 v) hn.1 hn.2).1
    exact ⟨hn, by omega, fun n3 => f45 0 (by decide) (by decide) (by omega) (fun _ e => absurd e n3) (fun _ e => absurd rfl e), fun e3 => f45 1 (by decide) (by decide) (by omega) (fun _ _ => rfl) (fun _ _ => e3)⟩
  -- the rounds
  have hOt : OFs τ := by unfold OFs; rw [hf.2 16 (by decide)]; exact hO
  have hne' : ∀ j : Int, 0 ≤ j → j < zI σ 0 31 → zA σ 0 24 j = 4 → zA σ 0 13 (zA σ 0 25 j) = 3 → zA τ 0 30 j = 1 := fun j j0 j1 => hne j j0 (by omega)
  have le0 : Le a b c (gI a b c) r (xR a b c τ) N := by
    intro Y hY j j0 j1 t y0
    have y3 := (hY j j0 j1 t y0).1
    obtain ⟨f1, f2, f3, f4⟩ := hX.fw j j0 j1 (Or.inr (Or.inl t))
    by_cases z : xR a b c τ j = 0
    · exact z
    · have k4 : zA σ 0 24 (PI a b c j) = 4 := by rw [f2, t]; rfl
      have e3 := hnx (PI a b c j) f1.1 (by omega) k4 z
      rw [f3, hr j j0 j1 t] at e3
      exact absurd e3 y3
  clear hP hv f45 hne hnx P
  unfold wpX11_settle_54
  refine lfp1_ind (fun w υ => (cz υ).toNat + (if w = 0 then 0 else 1)) (fun w υ => (0 ≤ w ∧ w ≤ 1) ∧ fr [] [16, 29, 30, 36] σ υ ∧ G3 υ ∧ OFs υ ∧ (w = 0 → Lyp υ ∧ Lx υ υ (zI σ 0 31).toNat ∧ Cl a b c (gI a b c) r (xR a b c υ) N) ∧ (∀ j : Int, 0 ≤ j → j < zI σ 0 31 → zA σ 0 24 j = 4 → zA σ 0 13 (zA σ 0 25 j) = 3 → zA υ 0 30 j = 1) ∧ Le a b c (gI a b c) r (xR a b c υ) N) ?_ ⟨by decide, hf.up (by decide) (by decide), h3t, hOt, fun q => absurd q (by decide), hne', le0⟩
  intro P w υ hI hP
  obtain ⟨hw, hfu, h3u, hOu, hL, hnu, leu⟩ := hI
  unfold wpbX11_settle_54
  refine ⟨by omega, fun q => hQ υ hfu h3u hOu (hL q).1 hnu (hL q).2.1 (hL q).2.2 leu, fun nw => ?_⟩
  have hSu : Sg υ := by unfold Sg; rw [hfu.1 31 (by decide), hfu.1 34 (by decide), hfu.2 28 (by decide)]; exact hS0
  refine x_lay h3u hOu hSu (fun ω hfw hOw hLw lxw => ?_)
  have h3w : G3 ω := by unfold G3; rw [hfw.2 24 (by decide), hfw.2 25 (by decide), hfw.2 26 (by decide), hfw.2 27 (by decide), hfw.2 28 (by decide), hfw.2 30 (by decide)]; exact h3u
  have hfσw : fr [] [16, 29, 30, 36] σ ω := hfu.tr (hfw.up (by decide) (by decide))
  have hczw : cz ω = cz υ := cz_eq (hfw.2 30 (by decide)) (hfw.1 31 (by decide))
  have u31 : zI υ 0 31 = zI σ 0 31 := hfu.1 31 (by decide)
  rw [u31] at lxw
  have lxω : Lx ω ω (zI σ 0 31).toNat := lxw.k (hfw.1 34 (by decide)) (hfw.2 24 (by decide)) (hfw.2 25 (by decide)) (hfw.2 28 (by decide)) (hfw.2 30 (by decide)) rfl rfl rfl
  have pxω : PX a b c N ω := hX.k (hfσw.1 31 (by decide)) (hfσw.2 24 (by decide)) (hfσw.2 25 (by decide)) (hfσw.2 26 (by decide)) (hfσw.2 28 (by decide))
  have xω : xR a b c ω = xR a b c υ := by unfold xR; rw [hfw.2 30 (by decide)]
  have leω : Le a b c (gI a b c) r (xR a b c ω) N := by rw [xω]; exact leu
  have w31 : zI ω 0 31 = zI σ 0 31 := hfσw.1 31 (by decide)
  unfold wpX11_settle_66
  refine lfp2_ind (fun _ k _ => (1200 - k).toNat) (fun m k ψ => (0 ≤ m ∧ m ≤ 1) ∧ (0 ≤ k ∧ k ≤ zI σ 0 31) ∧ fr [] [30] ω ψ ∧ G3 ψ ∧ (m = 0 → Lyp ψ) ∧ cz ψ ≤ cz ω ∧ (¬ m = 0 → cz ψ < cz ω) ∧ (∀ j : Int, 0 ≤ j → j < zI σ 0 31 → zA σ 0 24 j = 4 → zA σ 0 13 (zA σ 0 25 j) = 3 → zA ψ 0 30 j = 1) ∧ (∀ p : Int, k ≤ p → zA ψ 0 30 p = zA ω 0 30 p) ∧ (∀ j : Int, 0 ≤ j → j < N → a j = 9 → xR a b c ψ j ≠ 0 → xR a b c ω j ≠ 0 ∨ r (c j) = 3 ∨ ¬ Sh (dS a b c (gI a b c) (xR a b c ω) N j)) ∧ (m = 0 → zA ψ 0 30 = zA ω 0 30 ∧ ∀ j : Int, 0 ≤ j → j < N → a j = 9 → PI a b c j < k → xR a b c ω j = 0 → Sh (dS a b c (gI a b c) (xR a b c ω) N j))) ?_ ⟨by decide, by omega, fr.rf, h3w, fun _ => hLw, Int.le_refl _, fun q => absurd rfl q, by rw [hfw.2 30 (by decide)]; exact hnu, fun p _ => rfl, fun j _ _ _ q => Or.inl q, fun _ => ⟨rfl, fun j j0 j1 t q => by have := (pxω.fw j j0 j1 (Or.inr (Or.inl t))).1.1; omega⟩⟩
  intro P2 m k ψ hI2 hP2
  obtain ⟨hm, hk, hfp, h3p, hLp, hc1, hc2, hnp, hge, g2, g3⟩ := hI2
  have hfσp : fr [] [16, 29, 30, 36] σ ψ := hfσw.tr (hfp.up (by decide) (by decide))
  have j31 : zI ψ 0 31 = zI σ 0 31 := hfσp.1 31 (by decide)
  have b24 : zA ψ 0 24 = zA σ 0 24 := hfσp.2 24 (by decide)
  have hOp : OFs ψ := by unfold OFs; rw [hfp.2 16 (by decide)]; exact hOw
  have nnp := cz_nn (σ := ψ); have nnu := cz_nn (σ := υ)
  -- where a jump is short, its name is no stranger's
  have no3 : ∀ j : Int, 0 ≤ j → j < N → a j = 9 → xR a b c ψ j = 0 → r (c j) ≠ 3 := by
    intro j j0 j1 t x0 e3
    obtain ⟨f1, f2, f3, f4⟩ := hX.fw j j0 j1 (Or.inr (Or.inl t))
    have := hnp (PI a b c j) f1.1 f1.2 (by rw [f2, t]; rfl) (by rw [f3, hr j j0 j1 t]; exact e3)
    have x0' : zA ψ 0 30 (PI a b c j) = 0 := x0
    omega
  unfold wpbX11_settle_66 wpX11_settle_116
  rw [j31, b24]
  refine ⟨by omega, by omega, fun q => ?_, fun q => ?_⟩
  · refine hP _ _ ⟨hm, hfσp, h3p, hOp, fun m0 => ⟨hLp m0, ?_, ?_⟩, hnp, fun Y hY j j0 j1 t y0 => ?_⟩ ?_
    · exact lxω.k (hfp.1 34 (by decide)) (hfp.2 24 (by decide)) (hfp.2 25 (by decide)) (hfp.2 28 (by decide)) (g3 m0).1 (hfp.2 36 (by decide)) (hfp.2 29 (by decide)) (hfp.2 16 (by decide))
    · have xe : xR a b c ψ = xR a b c ω := by unfold xR; rw [(g3 m0).1]
      intro j j0 j1 t x0
      have n3 := no3 j j0 j1 t x0
      rw [xe] at x0 ⊢
      exact ⟨n3, (g3 m0).2 j j0 j1 t (by have := (hX.fw j j0 j1 (Or.inr (Or.inl t))).1.2; omega) x0⟩
    · by_cases z : xR a b c ψ j = 0
      · exact z
      · exfalso
        rcases g2 j j0 j1 t z with y | y
        · exact y (leω Y hY j j0 j1 t y0)
        · exact leω.ad hj.2.2 j0 j1 t (hj.j j0 j1 t) y Y hY y0
    · rw [if_neg nw]
      by_cases e : m = 0
      · rw [if_pos e]; omega
      · have := hc2 e
        rw [if_neg e]; omega
  · obtain ⟨q1, q2, q3, q4, q5, q6, q7, q8⟩ := h3 k hk.1 (by omega)
    have q8p := (h3p k hk.1 (by omega)).2.2.2.2.2.2.2
    have same : (m = 0 → ∀ j : Int, 0 ≤ j → j < N → a j = 9 → PI a b c j = k → xR a b c ω j = 0 → Sh (dS a b c (gI a b c) (xR a b c ω) N j)) → P2 m (k + 1) ψ := fun hh => hP2 _ _ _ ⟨hm, by omega, hfp, h3p, hLp, hc1, hc2, hnp, fun p hp' => hge p (by omega), g2, fun m0 => ⟨(g3 m0).1, fun j j0 j1 t pj x0 => by
      by_cases e : PI a b c j = k
      · exact hh m0 j j0 j1 t e x0
      · exact (g3 m0).2 j j0 j1 t (by omega) x0⟩⟩ (by omega)
    refine ⟨by omega, by omega, fun n4 => same (fun _ j j0 j1 t e x0 => ?_), fun e4 => ⟨by omega, fun nz => same (fun _ j j0 j1 t e x0 => ?_), fun z => ?_⟩⟩
    · exfalso
      obtain ⟨f1, f2, f3, f4⟩ := hX.fw j j0 j1 (Or.inr (Or.inl t))
      rw [e, t] at f2
      exact n4 f2
    · exfalso
      have x0' : zA ω 0 30 (PI a b c j) = 0 := x0
      rw [e, ← hge k (Int.le_refl _)] at x0'
      exact nz x0'
    have hn := q2 (by omega) (by omega)
    have b25 : zA ψ 0 25 = zA σ 0 25 := hfσp.2 25 (by decide)
    have b29 : zA ψ 0 29 = zA ω 0 29 := hfp.2 29 (by decide)
    have b16 : zA ψ 0 16 = zA ω 0 16 := hfp.2 16 (by decide)
    have hat := hLw.2.1 k hk.1 (by omega)
    have hzb := szp_bd h3p hk.1 (by omega)
    have hof := hOp (zA ψ 0 25 k) (by rw [b25]; exact hn.1) (by rw [b25]; exact hn.2)
    obtain ⟨j, j0, j1, jt, jk⟩ := hX.bw k hk.1 (by omega) (Or.inl e4)
    have t9 : a j = 9 := by omega
    obtain ⟨f1, f2, f3, f4⟩ := hX.fw j j0 j1 (Or.inr (Or.inl t9))
    have x0 : xR a b c ψ j = 0 := by unfold xR; rw [← jk]; exact z
    have n3 := no3 j j0 j1 t9 x0
    have hh : 0 ≤ lI a c (c j) N ∧ gI a b c (lI a c (c j) N) = gI a b c j := by
      rcases hj.j j0 j1 t9 with y | y
      · exact absurd y n3
      · exact y
    have szk : szp ψ k = szp ω k := by
      unfold szp
      rw [hfp.2 24 (by decide), hfp.2 25 (by decide), hge k (Int.le_refl _)]
    have dd := Lx.d (r := r) pxω (by rw [w31]; exact lxω) j0 j1 (Or.inl t9) hh
    rw [← jk] at dd f3
    refine s_distance h3p (by omega) (by rw [b25]; exact hn) ?_
    have de : zA ψ 0 16 (zA ψ 0 25 k) - zA ψ 0 29 k - szp ψ k = dS a b c (gI a b c) (xR a b c ω) N j := by
      rw [b25, f3, b16, b29, szk]; exact dd
    have uq : ∀ i : Int, 0 ≤ i → i < N → a i = 9 → PI a b c i = k → dS a b c (gI a b c) (xR a b c ω) N i = dS a b c (gI a b c) (xR a b c ω) N j := by
      intro i i0 i1 ti pi
      obtain ⟨y1, y2, y3, y4⟩ := hX.fw i i0 i1 (Or.inr (Or.inl ti))
      have n3i := no3 i i0 i1 ti (by unfold xR; rw [pi]; exact z)
      have hhi : 0 ≤ lI a c (c i) N ∧ gI a b c (lI a c (c i) N) = gI a b c i := by
        rcases hj.j i0 i1 ti with y | y
        · exact absurd y n3i
        · exact y
      have di := Lx.d (r := r) pxω (by rw [w31]; exact lxω) i0 i1 (Or.inl ti) hhi
      rw [pi] at di y3
      rw [← di, ← dd, ← f3, y3]
    rw [← de] at uq
    refine s_isShort (by rw [b29]; omega) (fun s1 s2 => ⟨by decide, fun q => absurd q (by decide), fun _ => same (fun _ i i0 i1 ti pi _ => by rw [uq i i0 i1 ti pi]; exact ⟨s1, s2⟩)⟩) (fun ns => ⟨by decide, fun _ => ?_, fun q => absurd rfl q⟩)
    have hless := cz_less (σ := ψ) (p := k) hk.1 (by omega) z
    refine hP2 _ _ _ ⟨by decide, by omega, hfp.ta (by decide), G3_near h3p (by decide), fun q => absurd q (by decide), by omega, fun _ => by omega, fun i i0 i1 i2 i3 => ?_, fun p hp' => ?_, fun i i0 i1 ti xi => ?_, fun q => absurd q (by decide)⟩ (by omega)
    · show zu (zA ψ 0 30) k 1 i = 1
      by_cases e : i = k
      · rw [e, pu_eq]
      · rw [pu_ne e]; exact hnp i i0 i1 i2 i3
    · show zu (zA ψ 0 30) k 1 p = zA ω 0 30 p
      rw [pu_ne (by omega)]; exact hge p (by omega)
    · by_cases e : PI a b c i = k
      · refine Or.inr (Or.inr ?_)
        rw [uq i i0 i1 ti e]
        unfold Sh
        omega
      · have xi' : zu (zA ψ 0 30) k 1 (PI a b c i) ≠ 0 := xi
        rw [pu_ne e] at xi'
        exact g2 i i0 i1 ti xi'
/-! X: a written module is there -/
abbrev WB : List Nat := [44, 45, 46, 47, 48, 49, 50, 51, 52, 53, 54, 55, 56, 57, 58, 59]
