/-! X: the class writes a module, exactly -/
theorem psum_0 : ∀ n : Nat, psum (fun _ => 0) n = 0
  | 0 => rfl
  | n + 1 => by
    show psum (fun _ => 0) n + 0 = 0
    rw [psum_0 n]; rfl
theorem psum_at {v a : Int} : ∀ n : Nat, psum (fun s => if a = s then v else 0) n = if 0 ≤ a ∧ a < n then v else 0
  | 0 => by
    show (0 : Int) = _
    rw [if_neg (by omega)]
  | n + 1 => by
    show psum (fun s => if a = s then v else 0) n + (if a = (n : Int) then v else 0) = _
    rw [psum_at n]
    by_cases e : a = (n : Int)
    · rw [if_pos e, if_neg (by omega), if_pos (by omega)]; omega
    · rw [if_neg e]
      by_cases q : 0 ≤ a ∧ a < n
      · rw [if_pos q, if_pos (by omega)]; omega
      · rw [if_neg q, if_neg (by omega)]; rfl
/-- what items have taken, in all segments -/
def tS (a b g X : Int → Int) : Nat → Int
  | 0 => 0
  | k + 1 => tS a b g X k + (if g k < 0 then 0 else sI a b X k)
theorem tS_eq {a b g X : Int → Int} {ns : Nat} : ∀ k : Nat, (∀ j : Nat, j < k → g j < ns) → tS a b g X k = psum (fun s => oS a b g X s k) ns
  | 0, _ => (psum_0 ns).symm
  | k + 1, h => by
    show tS a b g X k + (if g k < 0 then 0 else sI a b X k) = psum (fun s => oS a b g X s k + (if g k = s then sI a b X k else 0)) ns
    rw [psum_add, psum_at, ← tS_eq k (fun j hj => h j (by omega))]
    have := h k (by omega)
    by_cases q : g k < 0
    · rw [if_pos q, if_neg (by omega)]
    · rw [if_neg q, if_pos (by omega)]
theorem tS_mo {a b g X : Int → Int} {m : Nat} : ∀ k : Nat, m ≤ k → (∀ j : Nat, j < k → a j = 5 → 0 ≤ b j) → tS a b g X m ≤ tS a b g X k
  | 0, h, _ => by rw [show m = 0 by omega]; exact Int.le_refl _
  | k + 1, h, hb => by
    by_cases e : m = k + 1
    · rw [e]; exact Int.le_refl _
    · have ih := tS_mo (a := a) (b := b) (g := g) (X := X) (m := m) k (by omega) (fun j hj => hb j (by omega))
      have s0 := sI_nn (X := X) (hb k (by omega))
      show tS a b g X m ≤ tS a b g X k + (if g k < 0 then 0 else sI a b X k)
      split <;> omega
theorem mNe_nf {a b c g X r : Int → Int} {N : Nat} {d : MD} {i : Int} : d.nf ≤ (mNe a b c g X r N d i).nf ∧ (mNe a b c g X r N d i).nf ≤ d.nf + 1 := by
  unfold mNe
  split
  · show d.nf ≤ d.nf + 1 ∧ d.nf + 1 ≤ d.nf + 1
    omega
  · show d.nf ≤ d.nf ∧ d.nf ≤ d.nf + 1
    omega
theorem mI_nf {a b c g X r : Int → Int} {N : Nat} {d : MD} {i : Int} (hb : a i = 5 → 0 ≤ b i) : d.nf ≤ (mI a b c g X r N d i).nf ∧ 2 * (mI a b c g X r N d i).nf ≤ 2 * d.nf + (if g i < 0 then 0 else sI a b X i) := by
  have s0 := sI_nn (X := X) hb
  unfold mI
  by_cases q : g i < 0
  · rw [if_pos q, if_pos q]; omega
  rw [if_neg q, if_neg q]
  have key : ∀ e : MD, e.nf = d.nf → d.nf ≤ e.nf ∧ 2 * e.nf ≤ 2 * d.nf + sI a b X i := fun e h => by omega
  by_cases n4 : a i = 4
  · rw [if_pos n4]; exact key _ rfl
  rw [if_neg n4]
  by_cases n6 : a i = 6
  · rw [if_pos n6]; exact key _ rfl
  rw [if_neg n6]
  by_cases n7 : a i = 7
  · rw [if_pos n7]
    have s2 : sI a b X i = 2 := by unfold sI; rw [if_neg n4, if_neg (by omega), if_neg (by omega), if_pos (by omega)]
    show d.nf ≤ d.nf + 1 ∧ 2 * (d.nf + 1) ≤ _
    omega
  rw [if_neg n7]
  by_cases n8 : a i = 8
  · rw [if_pos n8]
    have s2 : sI a b X i = 2 := by unfold sI; rw [if_neg n4, if_neg (by omega), if_neg (by omega), if_pos (by omega)]
    show d.nf ≤ d.nf + 1 ∧ 2 * (d.nf + 1) ≤ _
    omega
  rw [if_neg n8]
  by_cases n9 : a i = 9
  · rw [if_pos n9]
    by_cases x0 : X i = 0
    · rw [if_pos x0]; exact key _ rfl
    · rw [if_neg x0]
      have s3 : sI a b X i = 3 := by unfold sI; rw [if_neg n4, if_neg (by omega), if_pos n9, if_neg x0]
      have h := mNe_nf (a := a) (b := b) (c := c) (g := g) (X := X) (r := r) (N := N) (d := mB d (stS a b g X N (g i) + ofS a b g X i) 233) (i := i)
      have e : (mB d (stS a b g X N (g i) + ofS a b g X i) 233).nf = d.nf := rfl
      omega
  rw [if_neg n9]
  by_cases n10 : a i = 10
  · rw [if_pos n10]; exact key _ rfl
  rw [if_neg n10]
  by_cases n11 : a i = 11
  · rw [if_pos n11]
    have s3 : sI a b X i = 3 := by unfold sI; rw [if_neg n4, if_neg (by omega), if_neg n9, if_neg (by omega), if_pos n11]
    have h := mNe_nf (a := a) (b := b) (c := c) (g := g) (X := X) (r := r) (N := N) (d := mB d (stS a b g X N (g i) + ofS a b g X i) 232) (i := i)
    have e : (mB d (stS a b g X N (g i) + ofS a b g X i) 232).nf = d.nf := rfl
    omega
  rw [if_neg n11]
  by_cases n12 : a i = 12
  · rw [if_pos n12]
    have s5 : sI a b X i = 5 := by unfold sI; rw [if_neg n4, if_neg (by omega), if_neg n9, if_neg (by omega), if_neg n11, if_pos n12]
    show d.nf ≤ d.nf + 1 + 1 ∧ 2 * (d.nf + 1 + 1) ≤ _
    omega
  rw [if_neg n12]; exact key _ rfl
theorem mK_nf {a b c g X r : Int → Int} {N : Nat} : ∀ k : Nat, (∀ j : Nat, j < k → a j = 5 → 0 ≤ b j) → 0 ≤ (mK a b c g X r N k).nf ∧ 2 * (mK a b c g X r N k).nf ≤ tS a b g X k
  | 0, _ => ⟨Int.le_refl _, Int.le_refl _⟩
  | k + 1, hb => by
    have ih := mK_nf (a := a) (b := b) (c := c) (g := g) (X := X) (r := r) (N := N) k (fun j hj => hb j (by omega))
    have s := mI_nf (a := a) (b := b) (c := c) (g := g) (X := X) (r := r) (N := N) (d := mK a b c g X r N k) (i := k) (hb k (by omega))
    show 0 ≤ (mI a b c g X r N (mK a b c g X r N k) k).nf ∧ 2 * (mI a b c g X r N (mK a b c g X r N k) k).nf ≤ tS a b g X k + (if g k < 0 then 0 else sI a b X k)
    omega
theorem x_mclear {g : Int} {σ : ZS} {Q : ZS → Prop} (hg : 0 ≤ g ∧ g ≤ 2) (hQ : ∀ τ : ZS, MO τ g → kp [g] σ τ → zI τ g 0 = 0 → zI τ g 1 = 0 → zI τ g 7 = 0 → zI τ g 13 = 0 → (∀ i : Int, 0 ≤ i → i < 400 → zA τ g 6 i = 0) → Q τ) : wpX6_clear g σ Q := by
  unfold wpX6_clear
  refine ⟨hg, c_fillM hg (fun h hh => ?_)⟩
  have key : ∀ τ : ZS, kp [g] σ τ → zI τ g 0 = 0 → zI τ g 1 = 0 → zI τ g 7 = 0 → zI τ g 13 = 0 → zA τ g 6 = h → Q τ := by
    intro τ k e0 e1 e7 e13 e6
    refine hQ τ ⟨by omega, by omega, by omega, by omega, fun s s0 s1 => absurd s0 (by omega), fun i i0 i1 => ?_, fun s s0 s1 => absurd s0 (by omega), fun s s0 s1 => absurd s0 (by omega)⟩ k e0 e1 e7 e13 (fun i i0 i1 => by rw [e6]; exact hh i i0 i1)
    rw [e6, hh i i0 i1]; decide
  have kk : kp [g] σ (zsF (zsI (zsI (zsI (zsI σ g 0 0) g 1 0) g 7 0) g 13 0) g 6 h) := ((((kp.rf.ti m_1).ti m_1).ti m_1).ti m_1).tf m_1
  obtain rfl | rfl | rfl : g = 0 ∨ g = 1 ∨ g = 2 := by omega
  · exact key _ kk rfl rfl rfl rfl rfl
  · exact key _ kk rfl rfl rfl rfl rfl
  · exact key _ kk rfl rfl rfl rfl rfl
theorem x_addSegment {g w a z st : Int} {σ : ZS} {Q : ZS → Prop} (hg : 0 ≤ g ∧ g ≤ 2) (h : MO σ g) (hlt : zI σ g 1 < 24) (hw : 0 ≤ w ∧ w ≤ 4398046511103) (ha : al a) (hz : 0 ≤ z) (hs0 : zI σ g 1 = 0 → st = 0) (hs1 : 0 < zI σ g 1 → zA σ g 5 (zI σ g 1 - 1) + zA σ g 4 (zI σ g 1 - 1) = st) (h4 : 0 ≤ st ∧ st + z ≤ 400) (hQ : ∀ τ : ZS, MO τ g → kp [g] σ τ → (zI τ g 0 = zI σ g 0 ∧ zI τ g 1 = zI σ g 1 + 1 ∧ zI τ g 7 = zI σ g 7 ∧ zI τ g 13 = zI σ g 13) → (zA τ g 2 = zu (zA σ g 2) (zI σ g 1) w ∧ zA τ g 3 = zu (zA σ g 3) (zI σ g 1) a ∧ zA τ g 4 = zu (zA σ g 4) (zI σ g 1) z ∧ zA τ g 5 = zu (zA σ g 5) (zI σ g 1) st ∧ zA τ g 6 = zA σ g 6) → Q τ) : wpX6_addSegment g w a z σ Q := by
  obtain ⟨a0, a1, a7, a13, b1, b2, b3, b4⟩ := h
  have key : ∀ τ : ZS, kp [g] σ τ → zI τ g 0 = zI σ g 0 → zI τ g 1 = zI σ g 1 + 1 → zI τ g 7 = zI σ g 7 → zI τ g 13 = zI σ g 13 → zA τ g 2 = zu (zA σ g 2) (zI σ g 1) w → zA τ g 3 = zu (zA σ g 3) (zI σ g 1) a → zA τ g 4 = zu (zA σ g 4) (zI σ g 1) z → zA τ g 5 = zu (zA σ g 5) (zI σ g 1) st → (zA τ g 6 = zA σ g 6 ∧ zA τ g 8 = zA σ g 8 ∧ zA τ g 9 = zA σ g 9 ∧ zA τ g 10 = zA σ g 10 ∧ zA τ g 11 = zA σ g 11 ∧ zA τ g 12 = zA σ g 12 ∧ zA τ g 14 = zA σ g 14 ∧ zA τ g 15 = zA σ g 15 ∧ zA τ g 16 = zA σ g 16) → Q τ := by
    intro τ k e0 e1 e7 e13 f2 f3 f4 f5 ⟨f6, f8, f9, f10, f11, f12, f14, f15, f16⟩
    refine hQ τ ⟨by rw [e0]; exact a0, by omega, by rw [e7]; exact a7, by rw [e13]; exact a13, fun s s0 s1 => ?_, ?_, ?_, ?_⟩ k ⟨e0, e1, e7, e13⟩ ⟨f2, f3, f4, f5, f6⟩
    · rw [f2, f3, f4, f5]
      by_cases e : s = zI σ g 1
      · rw [e, pu_eq, pu_eq, pu_eq, pu_eq]; exact ⟨hw, ha, hz, h4.1, h4.2⟩
      · rw [pu_ne e, pu_ne e, pu_ne e, pu_ne e]; exact b1 s s0 (by omega)
    · unfold MBy; rw [f6]; exact b2
    · unfold MFx; rw [e7, f8, f9, f10, f11, f12]; exact b3
    · unfold MPb; rw [e13, f14, f15, f16]; exact b4
  have f44 : ∀ x : Int, x = st → wpX6_addSegment_44 g w a z x σ Q := by
    intro x hx
    rw [hx]
    unfold wpX6_addSegment_44 wpX6_addSegment_96
    refine ⟨hg, by omega, ?_⟩
    have kk : kp [g] σ (zsI (zsA (zsA (zsA (zsA σ g 2 (zI σ g 1) w) g 3 (zI σ g 1) a) g 4 (zI σ g 1) z) g 5 (zI σ g 1) st) g 1 ((zI σ g 1) + 1)) := ((((kp.rf.ta m_1).ta m_1).ta m_1).ta m_1).ti m_1
    clear hQ b1 b2 b3 b4 hs0 hs1
    obtain rfl | rfl | rfl : g = 0 ∨ g = 1 ∨ g = 2 := by omega
    · exact key _ kk rfl rfl rfl rfl rfl rfl rfl rfl ⟨rfl, rfl, rfl, rfl, rfl, rfl, rfl, rfl, rfl⟩
    · exact key _ kk rfl rfl rfl rfl rfl rfl rfl rfl ⟨rfl, rfl, rfl, rfl, rfl, rfl, rfl, rfl, rfl⟩
    · exact key _ kk rfl rfl rfl rfl rfl rfl rfl rfl ⟨rfl, rfl, rfl, rfl, rfl, rfl, rfl, rfl, rfl⟩
  unfold wpX6_addSegment
  exact ⟨hg, by omega, fun q => absurd q (by omega), fun _ => ⟨fun q => f44 0 (hs0 (by omega)).symm, fun q => ⟨by omega, f44 _ (hs1 (by omega))⟩⟩⟩
theorem addPublic_mo {g w s o : Int} {σ : ZS} (hg : 0 ≤ g ∧ g ≤ 2) (h : MO σ g) (lt : zI σ g 13 < 24) (hw : 0 ≤ w ∧ w ≤ 4398046511103) (hs : 0 ≤ s ∧ s < 24) (ho : 0 ≤ o ∧ o ≤ 20000) : MO (zsI (zsA (zsA (zsA σ g 14 (zI σ g 13) w) g 15 (zI σ g 13) s) g 16 (zI σ g 13) o) g 13 ((zI σ g 13) + 1)) g := by
  have h' := h
  obtain ⟨a0, a1, a7, a13, b1, b2, b3, b4⟩ := h'
  have key : ∀ τ : ZS, zI σ g 13 < 24 → zI τ g 0 = zI σ g 0 → zI τ g 1 = zI σ g 1 → zI τ g 7 = zI σ g 7 → zI τ g 13 = zI σ g 13 + 1 → zA τ g 14 = zu (zA σ g 14) (zI σ g 13) w → zA τ g 15 = zu (zA σ g 15) (zI σ g 13) s → zA τ g 16 = zu (zA σ g 16) (zI σ g 13) o → (zA τ g 6 = zA σ g 6 ∧ zA τ g 8 = zA σ g 8 ∧ zA τ g 9 = zA σ g 9 ∧ zA τ g 10 = zA σ g 10 ∧ zA τ g 11 = zA σ g 11 ∧ zA τ g 12 = zA σ g 12 ∧ zA τ g 2 = zA σ g 2 ∧ zA τ g 3 = zA σ g 3 ∧ zA τ g 4 = zA σ g 4 ∧ zA τ g 5 = zA σ g 5) → MO τ g := by
    intro τ lt e0 e1 e7 e13 f14 f15 f16 ⟨f6, f8, f9, f10, f11, f12, f2, f3, f4, f5⟩
    refine ⟨by rw [e0]; exact a0, by rw [e1]; exact a1, by rw [e7]; exact a7, by omega, ?_, ?_, ?_, fun q q0 q1 => ?_⟩
    · unfold MSg; rw [e1, f2, f3, f4, f5]; exact b1
    · unfold MBy; rw [f6]; exact b2
    · unfold MFx; rw [e7, f8, f9, f10, f11, f12]; exact b3
    · rw [f14, f15, f16]
      by_cases e : q = zI σ g 13
      · rw [e, pu_eq, pu_eq, pu_eq]; exact ⟨hw, hs, ho⟩
      · rw [pu_ne e, pu_ne e, pu_ne e]; exact b4 q q0 (by omega)
  clear b1 b2 b3 b4 h
  obtain rfl | rfl | rfl : g = 0 ∨ g = 1 ∨ g = 2 := by omega
  · exact key _ lt rfl rfl rfl rfl rfl rfl rfl ⟨rfl, rfl, rfl, rfl, rfl, rfl, rfl, rfl, rfl, rfl⟩
  · exact key _ lt rfl rfl rfl rfl rfl rfl rfl ⟨rfl, rfl, rfl, rfl, rfl, rfl, rfl, rfl, rfl, rfl⟩
  · exact key _ lt rfl rfl rfl rfl rfl rfl rfl ⟨rfl, rfl, rfl, rfl, rfl, rfl, rfl, rfl, rfl, rfl⟩
/-- publics as they stand before item v: pn the name of a public, gi where a name's public stands -/
def PBx (a c nw tg lo : Int → Int) (n5 m v : Int) (σ : ZS) : Prop := ∃ pn gi : Int → Int, (∀ q : Int, 0 ≤ q → q < zI σ m 13 → ((0 ≤ pn q ∧ pn q < n5) ∧ gi (pn q) = q) ∧ (zA σ m 14 q = nw (pn q) ∧ zA σ m 15 q = tg (pn q) ∧ zA σ m 16 q = lo (pn q)) ∧ ∃ j : Int, (0 ≤ j ∧ j < v) ∧ a j = 2 ∧ c j = pn q) ∧ (∀ j : Int, 0 ≤ j → j < v → a j = 2 → ∃ q : Int, (0 ≤ q ∧ q < zI σ m 13) ∧ zA σ m 14 q = nw (c j))
theorem PBx.s {a c nw tg lo : Int → Int} {n5 m v : Int} {σ : ZS} (h : PBx a c nw tg lo n5 m v σ) (hv : a v ≠ 2) : PBx a c nw tg lo n5 m (v + 1) σ := by
  obtain ⟨pn, gi, h1, h2⟩ := h
  refine ⟨pn, gi, fun q q0 q1 => ?_, fun j j0 j1 t => ?_⟩
  · obtain ⟨x1, x2, j, x3, x4⟩ := h1 q q0 q1
    exact ⟨x1, x2, j, by omega, x4⟩
  · by_cases e : j = v
    · rw [e] at t; exact absurd t hv
    · exact h2 j j0 (by omega) t
theorem PBx.k {a c nw tg lo : Int → Int} {n5 m v : Int} {σ τ : ZS} (h : PBx a c nw tg lo n5 m v σ) (e13 : zI τ m 13 = zI σ m 13) (e14 : zA τ m 14 = zA σ m 14) (e15 : zA τ m 15 = zA σ m 15) (e16 : zA τ m 16 = zA σ m 16) : PBx a c nw tg lo n5 m v τ := by
  unfold PBx; rw [e13, e14, e15, e16]; exact h
/-- all but the publics stays -/
def Kq (m : Int) (σ τ : ZS) : Prop := (zI τ m 0 = zI σ m 0 ∧ zI τ m 1 = zI σ m 1 ∧ zI τ m 7 = zI σ m 7) ∧ ∀ f : Nat, f ≠ 14 → f ≠ 15 → f ≠ 16 → zA τ m f = zA σ m f
theorem x_addPublic {a c nw tg lo : Int → Int} {n5 g v : Int} {σ : ZS} {Q : ZS → Prop} (hg : 0 ≤ g ∧ g ≤ 2) (h : MO σ g) (h5 : 0 ≤ n5 ∧ n5 ≤ 24) (hP : PBx a c nw tg lo n5 g v σ) (v0 : 0 ≤ v) (hv : a v = 2) (hn : 0 ≤ c v ∧ c v < n5) (hw : 0 ≤ nw (c v) ∧ nw (c v) ≤ 4398046511103) (hs : 0 ≤ tg (c v) ∧ tg (c v) < 24) (ho : 0 ≤ lo (c v) ∧ lo (c v) ≤ 20000) (hQ : ∀ τ : ZS, MO τ g → kp [g] σ τ → Kq g σ τ → PBx a c nw tg lo n5 g (v + 1) τ → Q τ) : wpX6_addPublic g (nw (c v)) (tg (c v)) (lo (c v)) σ Q := by
  have G := c_addPublic (Q := fun τ => MO τ g ∧ kp [g] σ τ) hg h hw hs ho (fun τ x y _ => ⟨x, y⟩)
  have h13 := h.2.2.2.1
  have Kq0 : Kq g σ σ := ⟨⟨rfl, rfl, rfl⟩, fun _ _ _ _ => rfl⟩
  obtain ⟨pn, gi, p1, p2⟩ := hP
  unfold wpX6_addPublic wpX6_addPublic_58 at G ⊢
  refine ⟨hg, c_publicNumber hg h hw (fun x x0 x1 ex _ => ⟨by omega, fun _ => hQ σ h kp.rf Kq0 ⟨pn, gi, fun q q0 q1 => ?_, fun j j0 j1 t => ?_⟩, fun q => absurd x0 q⟩) (fun no => ⟨by decide, fun q => absurd q (by decide), fun _ => ⟨by omega, fun big => ?_, fun q => ⟨by omega, ?_⟩⟩⟩)⟩
  · obtain ⟨x1, x2, j, x3, x4⟩ := p1 q q0 q1
    exact ⟨x1, x2, j, by omega, x4⟩
  · by_cases e : j = v
    · rw [e]; exact ⟨x, ⟨x0, x1⟩, ex⟩
    · exact p2 j j0 (by omega) t
  all_goals
    have fresh : ∀ q : Int, 0 ≤ q → q < zI σ g 13 → pn q ≠ c v := by
      intro q q0 q1 e
      have := (p1 q q0 q1).2.1.1
      rw [e] at this
      exact no q q0 q1 this
    have ext : ∀ q : Int, 0 ≤ q → q < zI σ g 13 + 1 → (0 ≤ zu pn (zI σ g 13) (c v) q ∧ zu pn (zI σ g 13) (c v) q < n5) ∧ zu gi (c v) (zI σ g 13) (zu pn (zI σ g 13) (c v) q) = q := by
      intro q q0 q1
      by_cases e : q = zI σ g 13
      · rw [e, pu_eq, pu_eq]; exact ⟨hn, rfl⟩
      · rw [pu_ne e, pu_ne (fresh q q0 (by omega))]; exact (p1 q q0 (by omega)).1
    have room := pigeon (f := zu pn (zI σ g 13) (c v)) (g := zu gi (c v) (zI σ g 13)) (n := zI σ g 13 + 1) (k := n5) (by omega) h5.1 ext
  · omega
  · have key : ∀ τ : ZS, MO τ g → kp [g] σ τ → Kq g σ τ → zI τ g 13 = zI σ g 13 + 1 → zA τ g 14 = zu (zA σ g 14) (zI σ g 13) (nw (c v)) → zA τ g 15 = zu (zA σ g 15) (zI σ g 13) (tg (c v)) → zA τ g 16 = zu (zA σ g 16) (zI σ g 13) (lo (c v)) → Q τ := by
      intro τ tm tk tq e13 e14 e15 e16
      refine hQ τ tm tk tq ⟨zu pn (zI σ g 13) (c v), zu gi (c v) (zI σ g 13), fun q q0 q1 => ?_, fun j j0 j1 t => ?_⟩
      · rw [e13] at q1
        refine ⟨ext q q0 q1, ?_⟩
        rw [e14, e15, e16]
        by_cases e : q = zI σ g 13
        · rw [e, pu_eq, pu_eq, pu_eq, pu_eq]; exact ⟨⟨rfl, rfl, rfl⟩, v, by omega, hv, rfl⟩
        · rw [pu_ne e, pu_ne e, pu_ne e, pu_ne e]
          obtain ⟨x1, x2, j, x3, x4⟩ := p1 q q0 (by omega)
          exact ⟨x2, j, by omega, x4⟩
      · rw [e13, e14]
        by_cases e : j = v
        · rw [e]; exact ⟨zI σ g 13, by omega, pu_eq⟩
        · obtain ⟨q, q1, q2⟩ := p2 j j0 (by omega) t
          exact ⟨q, by omega, by rw [pu_ne (by omega)]; exact q2⟩
    have mk : MO (zsI (zsA (zsA (zsA σ g 14 (zI σ g 13) (nw (c v))) g 15 (zI σ g 13) (tg (c v))) g 16 (zI σ g 13) (lo (c v))) g 13 ((zI σ g 13) + 1)) g ∧ kp [g] σ (zsI (zsA (zsA (zsA σ g 14 (zI σ g 13) (nw (c v))) g 15 (zI σ g 13) (tg (c v))) g 16 (zI σ g 13) (lo (c v))) g 13 ((zI σ g 13) + 1)) := by
      have kk : kp [g] σ (zsI (zsA (zsA (zsA σ g 14 (zI σ g 13) (nw (c v))) g 15 (zI σ g 13) (tg (c v))) g 16 (zI σ g 13) (lo (c v))) g 13 ((zI σ g 13) + 1)) := (((kp.rf.ta m_1).ta m_1).ta m_1).ti m_1
      refine ⟨?_, kk⟩
      exact addPublic_mo hg h (by omega) hw hs ho
    refine key _ mk.1 mk.2 ⟨⟨(zI_f (by decide)), (zI_f (by decide)), (zI_f (by decide))⟩, fun f f1 f2 f3 => ?_⟩ zI_s ?_ ?_ ?_
    · show zA (zsA (zsA (zsA σ g 14 (zI σ g 13) (nw (c v))) g 15 (zI σ g 13) (tg (c v))) g 16 (zI σ g 13) (lo (c v))) g f = _
      rw [zA_f f3, zA_f f2, zA_f f1]
    · show zA (zsA (zsA (zsA σ g 14 (zI σ g 13) (nw (c v))) g 15 (zI σ g 13) (tg (c v))) g 16 (zI σ g 13) (lo (c v))) g 14 = _
      rw [zA_f (by decide), zA_f (by decide), zA_s]
    · show zA (zsA (zsA (zsA σ g 14 (zI σ g 13) (nw (c v))) g 15 (zI σ g 13) (tg (c v))) g 16 (zI σ g 13) (lo (c v))) g 15 = _
      rw [zA_f (by decide), zA_s, zA_f (by decide)]
    · show zA (zsA (zsA (zsA σ g 14 (zI σ g 13) (nw (c v))) g 15 (zI σ g 13) (tg (c v))) g 16 (zI σ g 13) (lo (c v))) g 16 = _
      rw [zA_s, zA_f (by decide), zA_f (by decide)]
