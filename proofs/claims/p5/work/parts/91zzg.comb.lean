/-! X: combining, as a walk over whole numbers -/
/-- the first of k names that is w, or k -/
def fF (nm : Int → Int) (w : Int) : Nat → Int
  | 0 => 0
  | k + 1 => if fF nm w k < k then fF nm w k else if nm k = w then (k : Int) else (k : Int) + 1
theorem fF_bd {nm : Int → Int} {w : Int} : ∀ k : Nat, (0 ≤ fF nm w k ∧ fF nm w k ≤ k) ∧ (∀ j : Int, 0 ≤ j → j < fF nm w k → nm j ≠ w) ∧ (fF nm w k < k → nm (fF nm w k) = w)
  | 0 => ⟨⟨Int.le_refl _, Int.le_refl _⟩, fun j j0 j1 => absurd (show j < 0 from j1) (by omega), fun q => absurd (show (0 : Int) < 0 from q) (by decide)⟩
  | k + 1 => by
    obtain ⟨h1, h2, h3⟩ := fF_bd (nm := nm) (w := w) k
    show (0 ≤ (if fF nm w k < k then fF nm w k else if nm k = w then (k : Int) else (k : Int) + 1) ∧ (if fF nm w k < k then fF nm w k else if nm k = w then (k : Int) else (k : Int) + 1) ≤ ((k + 1 : Nat) : Int)) ∧ (∀ j : Int, 0 ≤ j → j < (if fF nm w k < k then fF nm w k else if nm k = w then (k : Int) else (k : Int) + 1) → nm j ≠ w) ∧ ((if fF nm w k < k then fF nm w k else if nm k = w then (k : Int) else (k : Int) + 1) < ((k + 1 : Nat) : Int) → nm (if fF nm w k < k then fF nm w k else if nm k = w then (k : Int) else (k : Int) + 1) = w)
    by_cases a : fF nm w k < k
    · rw [if_pos a]; exact ⟨by omega, h2, fun _ => h3 a⟩
    · rw [if_neg a]
      have ek : fF nm w k = k := by omega
      rw [ek] at h2
      by_cases b : nm k = w
      · rw [if_pos b]; exact ⟨by omega, h2, fun _ => b⟩
      · rw [if_neg b]
        refine ⟨by omega, fun j j0 j1 => ?_, fun q => by omega⟩
        by_cases e : j = (k : Int)
        · rw [e]; exact b
        · exact h2 j j0 (by omega)
theorem fF_u {nm : Int → Int} {w x : Int} {k : Nat} (h0 : 0 ≤ x ∧ x ≤ k) (h1 : ∀ j : Int, 0 ≤ j → j < x → nm j ≠ w) (h2 : x < k → nm x = w) : fF nm w k = x := by
  obtain ⟨g0, g1, g2⟩ := fF_bd (nm := nm) (w := w) k
  by_cases a : fF nm w k < x
  · exact absurd (g2 (by omega)) (h1 _ g0.1 a)
  · by_cases b : x < fF nm w k
    · exact absurd (h2 (by omega)) (g1 x h0.1 b)
    · omega
theorem fF_cg {nm nm' : Int → Int} {w w' : Int} {k : Nat} (h : ∀ j : Int, 0 ≤ j → j < k → (nm j = w ↔ nm' j = w')) : fF nm w k = fF nm' w' k := by
  obtain ⟨g0, g1, g2⟩ := fF_bd (nm := nm') (w := w') k
  exact fF_u g0 (fun j j0 j1 q => g1 j j0 j1 ((h j j0 (by omega)).mp q)) (fun q => (h _ g0.1 q).mpr (g2 q))
/-- how many, names, sizes; by part: its segment, where it begins -/
def CbS : Type := Int × (Int → Int) × (Int → Int) × (Int → Int) × (Int → Int)
def CbS.n (t : CbS) : Int := t.1
def CbS.nm (t : CbS) : Int → Int := t.2.1
def CbS.sz (t : CbS) : Int → Int := t.2.2.1
def CbS.wh (t : CbS) : Int → Int := t.2.2.2.1
def CbS.bg (t : CbS) : Int → Int := t.2.2.2.2
def upA (v a : Int) : Int := (v + a - 1) / a * a
/-- part p is added -/
def cIx (W : Int → Int) (t : CbS) (p : Int) : Int := fF t.nm (W p) t.n.toNat
def cBe (W A : Int → Int) (t : CbS) (p : Int) : Int := upA (if cIx W t p = t.n then 0 else t.sz (cIx W t p)) (A p)
def cPa (W A Z : Int → Int) (t : CbS) (p : Int) : CbS := (if cIx W t p = t.n then t.n + 1 else t.n, if cIx W t p = t.n then zu t.nm t.n (W p) else t.nm, zu t.sz (cIx W t p) (cBe W A t p + Z p), zu t.wh p (cIx W t p), zu t.bg p (cBe W A t p))
def cSg (W A Z : Int → Int) (m : Int) (t : CbS) : Nat → CbS
  | 0 => t
  | k + 1 => cPa W A Z (cSg W A Z m t k) (24 * m + k)
def cT0 : CbS := (0, fun _ => 0, fun _ => 0, fun _ => 0, fun _ => 0)
/-- all parts of the modules before m -/
def cAl (W A Z C : Int → Int) : Nat → CbS
  | 0 => cT0
  | m + 1 => cSg W A Z m (cAl W A Z C m) (C m).toNat
/-- where segments end, laid one behind another -/
def pE (sz : Int → Int) : Nat → Int
  | 0 => 0
  | k + 1 => upA (pE sz k) 16 + sz k
/-- two walks over words that are alike -/
def Sim (W W' : Int → Int) (V : Int → Prop) (t t' : CbS) : Prop := (t.n = t'.n ∧ 0 ≤ t.n) ∧ t.sz = t'.sz ∧ t.wh = t'.wh ∧ t.bg = t'.bg ∧ ∃ rep : Int → Int, ∀ i : Int, 0 ≤ i → i < t.n → V (rep i) ∧ t.nm i = W (rep i) ∧ t'.nm i = W' (rep i)
theorem Sim.p {W W' A Z : Int → Int} {V : Int → Prop} (hW : ∀ p q : Int, V p → V q → (W p = W q ↔ W' p = W' q)) {t t' : CbS} (h : Sim W W' V t t') {p : Int} (hp : V p) : Sim W W' V (cPa W A Z t p) (cPa W' A Z t' p) := by
  obtain ⟨⟨e1, n0⟩, e2, e3, e4, rep, hr⟩ := h
  have ei : cIx W t p = cIx W' t' p := by
    unfold cIx
    rw [← e1]
    refine fF_cg (fun j j0 j1 => ?_)
    obtain ⟨v, a, b⟩ := hr j j0 (by omega)
    rw [a, b]; exact hW _ _ v hp
  have eb : cBe W A t p = cBe W' A t' p := by
    unfold cBe
    rw [ei, e1, e2]
  have bd := (fF_bd (nm := t.nm) (w := W p) t.n.toNat).1
  have ib : 0 ≤ cIx W t p ∧ cIx W t p ≤ t.n := by
    unfold cIx; omega
  refine ⟨?_, ?_, ?_, ?_, if cIx W t p = t.n then zu rep t.n p else rep, fun i i0 i1 => ?_⟩
  · show (if cIx W t p = t.n then t.n + 1 else t.n) = (if cIx W' t' p = t'.n then t'.n + 1 else t'.n) ∧ 0 ≤ (if cIx W t p = t.n then t.n + 1 else t.n)
    rw [← ei, ← e1]
    refine ⟨rfl, ?_⟩
    split <;> omega
  · show zu t.sz (cIx W t p) (cBe W A t p + Z p) = zu t'.sz (cIx W' t' p) (cBe W' A t' p + Z p)
    rw [ei, eb, e2]
  · show zu t.wh p (cIx W t p) = zu t'.wh p (cIx W' t' p)
    rw [ei, e3]
  · show zu t.bg p (cBe W A t p) = zu t'.bg p (cBe W' A t' p)
    rw [eb, e4]
  · have i1' : i < (if cIx W t p = t.n then t.n + 1 else t.n) := i1
    show V ((if cIx W t p = t.n then zu rep t.n p else rep) i) ∧ (if cIx W t p = t.n then zu t.nm t.n (W p) else t.nm) i = W ((if cIx W t p = t.n then zu rep t.n p else rep) i) ∧ (if cIx W' t' p = t'.n then zu t'.nm t'.n (W' p) else t'.nm) i = W' ((if cIx W t p = t.n then zu rep t.n p else rep) i)
    rw [← ei, ← e1]
    by_cases q : cIx W t p = t.n
    · rw [if_pos q] at i1' ⊢
      rw [if_pos q, if_pos q]
      by_cases e : i = t.n
      · rw [e, pu_eq, pu_eq, pu_eq]; exact ⟨hp, rfl, rfl⟩
      · rw [pu_ne e, pu_ne e, pu_ne e]; exact hr i i0 (by omega)
    · rw [if_neg q] at i1' ⊢
      rw [if_neg q, if_neg q]
      exact hr i i0 i1'
theorem Sim.s {W W' A Z : Int → Int} {V : Int → Prop} (hW : ∀ p q : Int, V p → V q → (W p = W q ↔ W' p = W' q)) {t t' : CbS} (h : Sim W W' V t t') {m : Int} : ∀ k : Nat, (∀ j : Int, 0 ≤ j → j < k → V (24 * m + j)) → Sim W W' V (cSg W A Z m t k) (cSg W' A Z m t' k)
  | 0, _ => h
  | k + 1, hv => (Sim.s hW h k (fun j j0 j1 => hv j j0 (by omega))).p hW (hv k (by omega) (by omega))
theorem Sim.a {W W' A Z C : Int → Int} {V : Int → Prop} (hW : ∀ p q : Int, V p → V q → (W p = W q ↔ W' p = W' q)) : ∀ m : Nat, (∀ i j : Int, 0 ≤ i → i < m → 0 ≤ j → j < C i → V (24 * i + j)) → Sim W W' V (cAl W A Z C m) (cAl W' A Z C m)
  | 0, _ => ⟨⟨rfl, Int.le_refl _⟩, rfl, rfl, rfl, fun _ => 0, fun i i0 i1 => absurd (show i < 0 from i1) (by omega)⟩
  | m + 1, hv => (Sim.a hW m (fun i j i0 i1 j0 j1 => hv i j i0 (by omega) j0 j1)).s hW _ (fun j j0 j1 => hv m j (by omega) (by omega) j0 (by omega))
