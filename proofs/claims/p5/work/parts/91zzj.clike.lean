/-! X: both sides combine alike -/
theorem cPa_cg {W A A' Z Z' : Int → Int} {t : CbS} {p : Int} (h : A p = A' p) (k : Z p = Z' p) : cPa W A Z t p = cPa W A' Z' t p := by
  unfold cPa cBe
  rw [h, k]
theorem cSg_cg {W A A' Z Z' : Int → Int} {m : Int} {t : CbS} : ∀ k : Nat, (∀ j : Int, 0 ≤ j → j < k → A (24 * m + j) = A' (24 * m + j) ∧ Z (24 * m + j) = Z' (24 * m + j)) → cSg W A Z m t k = cSg W A' Z' m t k
  | 0, _ => rfl
  | k + 1, h => by
    show cPa W A Z (cSg W A Z m t k) (24 * m + k) = cPa W A' Z' (cSg W A' Z' m t k) (24 * m + k)
    rw [cSg_cg k (fun j j0 j1 => h j j0 (by omega))]
    exact cPa_cg (h k (by omega) (by omega)).1 (h k (by omega) (by omega)).2
theorem cAl_cg {W A A' Z Z' C C' : Int → Int} : ∀ m : Nat, (∀ i : Int, 0 ≤ i → i < m → C i = C' i) → (∀ i j : Int, 0 ≤ i → i < m → 0 ≤ j → j < C i → A (24 * i + j) = A' (24 * i + j) ∧ Z (24 * i + j) = Z' (24 * i + j)) → cAl W A Z C m = cAl W A' Z' C' m
  | 0, _, _ => rfl
  | m + 1, hc, h => by
    show cSg W A Z m (cAl W A Z C m) (C m).toNat = cSg W A' Z' m (cAl W A' Z' C' m) (C' m).toNat
    rw [cAl_cg m (fun i i0 i1 => hc i i0 (by omega)) (fun i j i0 i1 j0 j1 => h i j i0 (by omega) j0 j1), ← hc m (by omega) (by omega)]
    exact cSg_cg _ (fun j j0 j1 => h m j (by omega) (by omega) j0 (by omega))
/-- what both sides have combined -/
theorem comb_sim {σ ρ : ZS} (hm : M3 σ) (hl : Alk σ ρ) : ∃ V : Int → Prop, Sim (wC σ) (zA ρ 0 45) V (cAl (wC σ) (aC σ) (sC σ) (fun m => zI σ m 1) 3) (cAl (zA ρ 0 45) (zA ρ 0 46) (zA ρ 0 48) (cR ρ) 3) := by
  have ec : ∀ i : Int, 0 ≤ i → i < ((3 : Nat) : Int) → zI σ i 1 = cR ρ i := by
    intro i i0 i1
    unfold cR
    rw [← hl.2.1 i i0 (by omega)]
    by_cases z : zI σ i 0 = 0
    · rw [if_pos z]; exact ((hl.2.2 i i0 (by omega)).1 z).1
    · rw [if_neg z]; exact ((hl.2.2 i i0 (by omega)).2 z).1.1
  have sg : ∀ i j : Int, 0 ≤ i → i < ((3 : Nat) : Int) → 0 ≤ j → j < zI σ i 1 → zA ρ 0 48 (24 * i + j) = sC σ (24 * i + j) ∧ zA ρ 0 46 (24 * i + j) = aC σ (24 * i + j) ∧ RW (zA ρ 0 45 (24 * i + j)) (wC σ (24 * i + j)) := by
    intro i j i0 i1 j0 j1
    have h24 := (hm i i0 (by omega)).2.1
    have t0 : zI σ i 0 ≠ 0 := fun z => by have := ((hl.2.2 i i0 (by omega)).1 z).1; omega
    obtain ⟨⟨-, x⟩, -⟩ := (hl.2.2 i i0 (by omega)).2 t0
    obtain ⟨x1, -, x3, x4⟩ := x j j0 j1
    unfold sC aC wC
    rw [show (24 * i + j) / 24 = i by omega, show (24 * i + j) % 24 = j by omega]
    exact ⟨x1, x3, x4⟩
  refine ⟨fun p => ∃ i j : Int, (0 ≤ i ∧ i < ((3 : Nat) : Int)) ∧ (0 ≤ j ∧ j < zI σ i 1) ∧ p = 24 * i + j, ?_⟩
  rw [cAl_cg (W := zA ρ 0 45) (A := zA ρ 0 46) (A' := aC σ) (Z := zA ρ 0 48) (Z' := sC σ) (C := cR ρ) (C' := fun m => zI σ m 1) 3 (fun i i0 i1 => (ec i i0 i1).symm) (fun i j i0 i1 j0 j1 => by
    have := sg i j i0 i1 j0 (by rw [ec i i0 i1]; exact j1)
    exact ⟨this.2.1, this.1⟩)]
  refine Sim.a (fun p q hp hq => ?_) 3 (fun i j i0 i1 j0 j1 => ⟨i, j, ⟨i0, i1⟩, ⟨j0, j1⟩, rfl⟩)
  obtain ⟨i, j, ib, jb, rfl⟩ := hp
  obtain ⟨i', j', ib', jb', rfl⟩ := hq
  exact ((sg i j ib.1 ib.2 jb.1 jb.2).2.2.iff (sg i' j' ib'.1 ib'.2 jb'.1 jb'.2).2.2).symm
