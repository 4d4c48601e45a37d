/-! X: parts lie apart -/
def SepI (Z : Int → Int) (V : Int → Prop) (t : CbS) : Prop := 0 ≤ t.n ∧ (∀ i : Int, 0 ≤ i → i < t.n → 0 ≤ t.sz i) ∧ (∀ p : Int, V p → (0 ≤ t.wh p ∧ t.wh p < t.n) ∧ 0 ≤ t.bg p ∧ t.bg p + Z p ≤ t.sz (t.wh p)) ∧ (∀ p p' : Int, V p → V p' → p < p' → t.wh p = t.wh p' → t.bg p + Z p ≤ t.bg p')
theorem upA_bd {v a : Int} (hv : 0 ≤ v) (ha : 1 ≤ a ∧ a ≤ 16) : v ≤ upA v a ∧ upA v a ≤ v + 15 := al_bd hv ha
theorem SepI.p {W A Z : Int → Int} {V V' : Int → Prop} {t : CbS} {p0 : Int} (h : SepI Z V t) (hv : ∀ p : Int, V' p → V p ∨ p = p0) (hl : ∀ p : Int, V p → p < p0) (hz : 0 ≤ Z p0) (ha : 1 ≤ A p0 ∧ A p0 ≤ 16) : SepI Z V' (cPa W A Z t p0) := by
  obtain ⟨h0, h1, h2, h3⟩ := h
  have bd := (fF_bd (nm := t.nm) (w := W p0) t.n.toNat).1
  have ib : 0 ≤ cIx W t p0 ∧ cIx W t p0 ≤ t.n := by unfold cIx; omega
  have b0 : 0 ≤ (if cIx W t p0 = t.n then 0 else t.sz (cIx W t p0)) := by
    split
    · exact Int.le_refl _
    · exact h1 _ ib.1 (by omega)
  have ub := upA_bd b0 ha
  have eb : cBe W A t p0 = upA (if cIx W t p0 = t.n then 0 else t.sz (cIx W t p0)) (A p0) := rfl
  rw [← eb] at ub
  have low : cIx W t p0 < t.n → t.sz (cIx W t p0) ≤ cBe W A t p0 := fun q => by rw [if_neg (by omega)] at ub; exact ub.1
  have en : (cPa W A Z t p0).n = if cIx W t p0 = t.n then t.n + 1 else t.n := rfl
  have es : (cPa W A Z t p0).sz = zu t.sz (cIx W t p0) (cBe W A t p0 + Z p0) := rfl
  have ew : (cPa W A Z t p0).wh = zu t.wh p0 (cIx W t p0) := rfl
  have eg : (cPa W A Z t p0).bg = zu t.bg p0 (cBe W A t p0) := rfl
  have n1 : t.n ≤ (cPa W A Z t p0).n ∧ cIx W t p0 < (cPa W A Z t p0).n ∧ (cPa W A Z t p0).n ≤ t.n + 1 := by
    rw [en]; split <;> omega
  have nx : (cPa W A Z t p0).n = t.n + 1 → cIx W t p0 = t.n := by
    rw [en]; intro q; split at q
    · assumption
    · omega
  refine ⟨by omega, fun i i0 i1 => ?_, fun p vp => ?_, fun p p' vp vp' lt e => ?_⟩
  · rw [es]
    by_cases e : i = cIx W t p0
    · rw [e, pu_eq]; omega
    · rw [pu_ne e]
      refine h1 i i0 ?_
      by_cases q : (cPa W A Z t p0).n = t.n + 1
      · have := nx q; omega
      · omega
  · rw [ew, eg, es]
    rcases hv p vp with v | v
    · have ne : p ≠ p0 := by have := hl p v; omega
      obtain ⟨g1, g2, g3⟩ := h2 p v
      rw [pu_ne ne, pu_ne ne]
      refine ⟨by omega, g2, ?_⟩
      by_cases e : t.wh p = cIx W t p0
      · rw [e, pu_eq]
        rw [e] at g3 g1
        have := low g1.2
        omega
      · rw [pu_ne e]; exact g3
    · rw [v, pu_eq, pu_eq, pu_eq]
      exact ⟨by omega, by omega, Int.le_refl _⟩
  · rw [ew] at e
    rw [eg]
    rcases hv p vp with v | v
    · have ne : p ≠ p0 := by have := hl p v; omega
      obtain ⟨g1, g2, g3⟩ := h2 p v
      rw [pu_ne ne] at e ⊢
      rcases hv p' vp' with v' | v'
      · have ne' : p' ≠ p0 := by have := hl p' v'; omega
        rw [pu_ne ne'] at e ⊢
        exact h3 p p' v v' lt e
      · rw [v', pu_eq] at e ⊢
        rw [e] at g3 g1
        have := low g1.2
        omega
    · rcases hv p' vp' with v' | v'
      · have := hl p' v'; omega
      · omega
/-- parts of the modules before M -/
def Vp (C : Int → Int) (M p : Int) : Prop := 0 ≤ p ∧ p / 24 < M ∧ p % 24 < C (p / 24)
theorem SepI.s {W A Z C : Int → Int} {t : CbS} {m : Int} (hm : 0 ≤ m) (h : SepI Z (Vp C m) t) : ∀ k : Nat, (k : Int) ≤ 24 → (∀ j : Int, 0 ≤ j → j < k → 0 ≤ Z (24 * m + j) ∧ 1 ≤ A (24 * m + j) ∧ A (24 * m + j) ≤ 16) → SepI Z (fun p => Vp C m p ∨ (24 * m ≤ p ∧ p < 24 * m + k)) (cSg W A Z m t k)
  | 0, _, _ => by
    obtain ⟨h0, h1, h2, h3⟩ := h
    have v : ∀ p : Int, Vp C m p ∨ (24 * m ≤ p ∧ p < 24 * m + ((0 : Nat) : Int)) → Vp C m p := fun p q => q.elim id (fun q => absurd q (by omega))
    exact ⟨h0, h1, fun p q => h2 p (v p q), fun p p' q q' => h3 p p' (v p q) (v p' q')⟩
  | k + 1, hk, hz => by
    obtain ⟨z1, z2, z3⟩ := hz k (by omega) (by omega)
    refine (SepI.s hm h k (by omega) (fun j j0 j1 => hz j j0 (by omega))).p (fun p q => ?_) (fun p q => ?_) z1 ⟨z2, z3⟩
    · rcases q with q | q
      · exact Or.inl (Or.inl q)
      · by_cases e : p = 24 * m + k
        · exact Or.inr e
        · exact Or.inl (Or.inr (by omega))
    · rcases q with ⟨q1, q2, -⟩ | q
      · omega
      · omega
theorem SepI.a {W A Z C : Int → Int} : ∀ m : Nat, (∀ i : Int, 0 ≤ i → i < m → 0 ≤ C i ∧ C i ≤ 24) → (∀ i j : Int, 0 ≤ i → i < m → 0 ≤ j → j < C i → 0 ≤ Z (24 * i + j) ∧ 1 ≤ A (24 * i + j) ∧ A (24 * i + j) ≤ 16) → SepI Z (Vp C m) (cAl W A Z C m)
  | 0, _, _ => ⟨Int.le_refl _, fun i i0 i1 => absurd (show i < 0 from i1) (by omega), fun p q => by have := q.1; have := q.2.1; omega, fun p p' q => by have := q.1; have := q.2.1; omega⟩
  | m + 1, hc, hz => by
    have hcm := hc m (by omega) (by omega)
    have ih := SepI.a (W := W) m (fun i i0 i1 => hc i i0 (by omega)) (fun i j i0 i1 => hz i j i0 (by omega))
    have s := SepI.s (W := W) (m := (m : Int)) (by omega) ih (C m).toNat (by omega) (fun j j0 j1 => hz m j (by omega) (by omega) j0 (by omega))
    obtain ⟨h0, h1, h2, h3⟩ := s
    have v : ∀ p : Int, Vp C ((m + 1 : Nat) : Int) p → Vp C m p ∨ (24 * (m : Int) ≤ p ∧ p < 24 * (m : Int) + (((C m).toNat : Nat) : Int)) := by
      intro p ⟨q1, q2, q3⟩
      by_cases e : p / 24 = (m : Int)
      · rw [e] at q3; exact Or.inr (by omega)
      · exact Or.inl ⟨q1, by omega, q3⟩
    exact ⟨h0, h1, fun p q => h2 p (v p q), fun p p' q q' => h3 p p' (v p q) (v p' q')⟩
/-- where a combined segment begins -/
def plC (t : CbS) (i : Int) : Int := upA (pE t.sz i.toNat) 16
theorem pE_nn {sz : Int → Int} : ∀ k : Nat, (∀ i : Int, 0 ≤ i → i < k → 0 ≤ sz i) → 0 ≤ pE sz k
  | 0, _ => Int.le_refl _
  | k + 1, h => by
    have ih := pE_nn k (fun i i0 i1 => h i i0 (by omega))
    have := upA_bd (a := 16) ih (by decide)
    have := h k (by omega) (by omega)
    show 0 ≤ upA (pE sz k) 16 + sz k
    omega
theorem pE_mo {sz : Int → Int} {j : Nat} : ∀ k : Nat, j ≤ k → (∀ i : Int, 0 ≤ i → i < k → 0 ≤ sz i) → pE sz j ≤ pE sz k
  | 0, hj, _ => by rw [show j = 0 by omega]; exact Int.le_refl _
  | k + 1, hj, h => by
    by_cases e : j = k + 1
    · rw [e]; exact Int.le_refl _
    · have ih := pE_mo (j := j) k (by omega) (fun i i0 i1 => h i i0 (by omega))
      have := upA_bd (a := 16) (pE_nn (sz := sz) k (fun i i0 i1 => h i i0 (by omega))) (by decide)
      have := h k (by omega) (by omega)
      show pE sz j ≤ upA (pE sz k) 16 + sz k
      omega
theorem pl_sep {t : CbS} (h : ∀ i : Int, 0 ≤ i → i < t.n → 0 ≤ t.sz i) {i j : Int} (i0 : 0 ≤ i) (ij : i < j) (jn : j < t.n) : plC t i + t.sz i ≤ plC t j := by
  have m := pE_mo (sz := t.sz) (j := i.toNat + 1) j.toNat (by omega) (fun q q0 q1 => h q q0 (by omega))
  have n := pE_nn (sz := t.sz) j.toNat (fun q q0 q1 => h q q0 (by omega))
  have u := upA_bd (a := 16) n (by decide)
  have e : pE t.sz (i.toNat + 1) = plC t i + t.sz i := by
    show upA (pE t.sz i.toNat) 16 + t.sz ((i.toNat : Nat) : Int) = _
    rw [show ((i.toNat : Nat) : Int) = i by omega]; rfl
  unfold plC at e ⊢
  omega
theorem SepI.all {Z : Int → Int} {V : Int → Prop} {t : CbS} (h : SepI Z V t) {p p' : Int} (v : V p) (v' : V p') (ne : p ≠ p') : plC t (t.wh p) + t.bg p + Z p ≤ plC t (t.wh p') + t.bg p' ∨ plC t (t.wh p') + t.bg p' + Z p' ≤ plC t (t.wh p) + t.bg p := by
  obtain ⟨h0, h1, h2, h3⟩ := h
  obtain ⟨a1, a2, a3⟩ := h2 p v
  obtain ⟨b1, b2, b3⟩ := h2 p' v'
  by_cases e : t.wh p = t.wh p'
  · rcases Int.lt_or_gt_of_ne ne with lt | gt
    · have := h3 p p' v v' lt e
      rw [e]; exact Or.inl (by omega)
    · have := h3 p' p v' v gt e.symm
      rw [e]; exact Or.inr (by omega)
  · rcases Int.lt_or_gt_of_ne e with lt | gt
    · have := pl_sep h1 a1.1 lt b1.2
      exact Or.inl (by omega)
    · have := pl_sep h1 b1.1 gt a1.2
      exact Or.inr (by omega)
/-! X: the image, as a value -/
/-- part p is copied: it lies at L p, has Z p bytes, S p -/
def icP (L Z : Int → Int) (S : Int → Int → Int) (h : Int → Int) (p : Int) : Int → Int := fun j => if L p ≤ j ∧ j < L p + Z p then S p (j - L p) else h j
def icS (L Z : Int → Int) (S : Int → Int → Int) (m : Int) (h : Int → Int) : Nat → Int → Int
  | 0 => h
  | k + 1 => icP L Z S (icS L Z S m h k) (24 * m + k)
def icA (L Z : Int → Int) (S : Int → Int → Int) (C : Int → Int) : Nat → Int → Int
  | 0 => fun _ => 0
  | m + 1 => icS L Z S m (icA L Z S C m) (C m).toNat
def SpL (L Z : Int → Int) (V : Int → Prop) : Prop := ∀ p p' : Int, V p → V p' → p ≠ p' → L p + Z p ≤ L p' ∨ L p' + Z p' ≤ L p
theorem icS_at {L Z : Int → Int} {S : Int → Int → Int} {C : Int → Int} {M m : Int} {h : Int → Int} (hs : SpL L Z (Vp C M)) (hm : 0 ≤ m ∧ m < M) (hh : ∀ p i : Int, Vp C m p → 0 ≤ i → i < Z p → h (L p + i) = S p i) : ∀ k : Nat, (k : Int) ≤ C m → (k : Int) ≤ 24 → ∀ p i : Int, (Vp C m p ∨ (24 * m ≤ p ∧ p < 24 * m + k)) → 0 ≤ i → i < Z p → icS L Z S m h k (L p + i) = S p i
  | 0, _, _, p, i, v, i0, i1 => hh p i (v.elim id (fun q => absurd q (by omega))) i0 i1
  | k + 1, hk, h24, p, i, v, i0, i1 => by
    show (if L (24 * m + k) ≤ L p + i ∧ L p + i < L (24 * m + k) + Z (24 * m + k) then S (24 * m + k) (L p + i - L (24 * m + k)) else icS L Z S m h k (L p + i)) = S p i
    have inM : ∀ j : Int, 0 ≤ j → j < k + 1 → Vp C M (24 * m + j) := fun j j0 j1 => by
      have e1 : (24 * m + j) / 24 = m := by omega
      refine ⟨by omega, by omega, ?_⟩
      rw [e1]; omega
    by_cases e : p = 24 * m + k
    · rw [← e, if_pos (by omega), show L p + i - L p = i by omega]
    · have vM : Vp C M p := by
        rcases v with ⟨q1, q2, q3⟩ | q
        · exact ⟨q1, by omega, q3⟩
        · have := inM (p - 24 * m) (by omega) (by omega)
          rw [show 24 * m + (p - 24 * m) = p by omega] at this
          exact this
      have sp := hs p (24 * m + k) vM (inM k (by omega) (by omega)) e
      rw [if_neg (by omega)]
      refine icS_at hs hm hh k (by omega) (by omega) p i ?_ i0 i1
      rcases v with v | v
      · exact Or.inl v
      · exact Or.inr (by omega)
theorem icA_at {L Z : Int → Int} {S : Int → Int → Int} {C : Int → Int} {M : Int} (hs : SpL L Z (Vp C M)) : ∀ m : Nat, (m : Int) ≤ M → (∀ i : Int, 0 ≤ i → i < m → 0 ≤ C i ∧ C i ≤ 24) → ∀ p i : Int, Vp C m p → 0 ≤ i → i < Z p → icA L Z S C m (L p + i) = S p i
  | 0, _, _, p, i, v, i0, i1 => by have := v.1; have := v.2.1; omega
  | m + 1, hm, hc, p, i, v, i0, i1 => by
    have hcm := hc m (by omega) (by omega)
    refine icS_at (m := (m : Int)) hs (by omega) (fun p i v => icA_at hs m (by omega) (fun i i0 i1 => hc i i0 (by omega)) p i v) (C m).toNat (by omega) (by omega) p i ?_ i0 i1
    obtain ⟨q1, q2, q3⟩ := v
    by_cases e : p / 24 = (m : Int)
    · rw [e] at q3; exact Or.inr (by omega)
    · exact Or.inl ⟨q1, by omega, q3⟩
/-- bytes; how many relocations; which -/
def IGv : Type := (Int → Int) × Int × (Int → Int)
def IGv.b (t : IGv) : Int → Int := t.1
def IGv.n (t : IGv) : Int := t.2.1
def IGv.r (t : IGv) : Int → Int := t.2.2
def wdF (h : Int → Int) (a v : Int) : Int → Int := zu (zu h a ((h a + 256 * h (a + 1) + v) % 256)) (a + 1) ((h a + 256 * h (a + 1) + v) / 256 % 256)
/-- fixup f: at T f, V f is added; K f its kind -/
def ifx (T V K : Int → Int) (t : IGv) (f : Int) : IGv := (wdF t.b (T f) (V f), if K f = 1 then t.n + 1 else t.n, if K f = 1 then zu t.r t.n (T f) else t.r)
def ifS (T V K : Int → Int) (m : Int) (t : IGv) : Nat → IGv
  | 0 => t
  | k + 1 => ifx T V K (ifS T V K m t k) (200 * m + k)
def ifA (T V K D : Int → Int) (t : IGv) : Nat → IGv
  | 0 => t
  | m + 1 => ifS T V K m (ifA T V K D t m) (D m).toNat
def Vf (D : Int → Int) (M f : Int) : Prop := 0 ≤ f ∧ f / 200 < M ∧ f % 200 < D (f / 200)
def SpT (T D : Int → Int) (M : Int) : Prop := ∀ f f' : Int, Vf D M f → Vf D M f' → f ≠ f' → T f + 2 ≤ T f' ∨ T f' + 2 ≤ T f
theorem ifS_n {T V K : Int → Int} {m : Int} {t : IGv} : ∀ k : Nat, t.n ≤ (ifS T V K m t k).n ∧ (ifS T V K m t k).n ≤ t.n + k
  | 0 => ⟨Int.le_refl _, by show t.n ≤ t.n + ((0 : Nat) : Int); omega⟩
  | k + 1 => by
    have ih := ifS_n (T := T) (V := V) (K := K) (m := m) (t := t) k
    show t.n ≤ (if K (200 * m + k) = 1 then (ifS T V K m t k).n + 1 else (ifS T V K m t k).n) ∧ (if K (200 * m + k) = 1 then (ifS T V K m t k).n + 1 else (ifS T V K m t k).n) ≤ t.n + ((k + 1 : Nat) : Int)
    split <;> omega
theorem ifS_un {T V K D : Int → Int} {M m : Int} {t : IGv} (hs : SpT T D M) (hm : 0 ≤ m ∧ m < M) {f e : Int} (he : e = 0 ∨ e = 1) (vf : Vf D M f) : ∀ k : Nat, (k : Int) ≤ D m → (k : Int) ≤ 200 → ¬ (200 * m ≤ f ∧ f < 200 * m + k) → (ifS T V K m t k).b (T f + e) = t.b (T f + e)
  | 0 => fun _ _ _ => rfl
  | k + 1 => fun hk h2 hf => by
    have ih := ifS_un (V := V) (K := K) (t := t) hs hm he vf k (by omega) (by omega) (by omega)
    have vk : Vf D M (200 * m + k) := by
      have e1 : (200 * m + (k : Int)) / 200 = m := by omega
      refine ⟨by omega, by omega, ?_⟩
      rw [e1]; omega
    have sp := hs f (200 * m + k) vf vk (by omega)
    show wdF (ifS T V K m t k).b (T (200 * m + k)) (V (200 * m + k)) (T f + e) = _
    unfold wdF
    rw [pu_ne (by omega), pu_ne (by omega)]; exact ih
theorem ifA_un {T V K D : Int → Int} {M : Int} {t : IGv} (hs : SpT T D M) {f e : Int} (he : e = 0 ∨ e = 1) (vf : Vf D M f) : ∀ m : Nat, (m : Int) ≤ M → (∀ i : Int, 0 ≤ i → i < m → 0 ≤ D i ∧ D i ≤ 200) → ¬ f / 200 < (m : Int) → (ifA T V K D t m).b (T f + e) = t.b (T f + e)
  | 0, _, _, _ => rfl
  | m + 1, hm, hd, hf => by
    have hdm := hd m (by omega) (by omega)
    have ih := ifA_un (V := V) (K := K) (t := t) hs he vf m (by omega) (fun i i0 i1 => hd i i0 (by omega)) (by omega)
    show (ifS T V K m (ifA T V K D t m) (D m).toNat).b (T f + e) = _
    rw [ifS_un hs (by omega) he vf (D m).toNat (by omega) (by omega) (by omega)]
    exact ih
/-- before its turn a fixup's word is as it was copied -/
theorem if_un {T V K D : Int → Int} {M : Int} {t : IGv} (hs : SpT T D M) (hd : ∀ i : Int, 0 ≤ i → i < M → 0 ≤ D i ∧ D i ≤ 200) {m : Nat} {k : Nat} (hm : (m : Int) < M) (hk : (k : Int) < D m) {e : Int} (he : e = 0 ∨ e = 1) : (ifS T V K m (ifA T V K D t m) k).b (T (200 * m + k) + e) = t.b (T (200 * m + k) + e) := by
  have hdm := hd m (by omega) hm
  have e1 : (200 * (m : Int) + (k : Int)) / 200 = m := by omega
  have vf : Vf D M (200 * m + k) := by
    refine ⟨by omega, by omega, ?_⟩
    rw [e1]; omega
  rw [ifS_un hs (by omega) he vf k (by omega) (by omega) (by omega)]
  exact ifA_un hs he vf m (by omega) (fun i i0 i1 => hd i i0 (by omega)) (by omega)
/-! X: the class writes the image, exactly -/
theorem x_publicOffset {σ : ZS} {w : Int} {Q : Int → ZS → Prop} (h : M3 σ) (hw : 0 ≤ w ∧ w ≤ 4398046511103) (hp : PbC σ w 3) (hu : ∀ m q m' q' : Int, PPc σ w m q → PPc σ w m' q' → m * 24 + zA σ m 15 q = m' * 24 + zA σ m' 15 q') (hQ : ∀ m q : Int, PPc σ w m q → Q (zA σ 16 6 (m * 24 + zA σ m 15 q) + zA σ m 16 q) σ) : wpX3_publicOffset w σ Q := by
  unfold wpX3_publicOffset
  refine x_publicModule h (by decide) hw (fun m q mb mt qb qw => ⟨by omega, fun _ => x_publicPart h hw hp (fun m' q' pp' => ?_), fun n => absurd mb.1 n⟩) (fun no => absurd hp no)
  have mo := h m mb.1 (by omega)
  have mo' := h m' pp'.1.1 (by have := pp'.1.2; omega)
  have h13 := mo.2.2.2.1
  have h13' := mo'.2.2.2.1
  have b15 := (mo'.2.2.2.2.2.2.2 q' pp'.2.2.1.1 pp'.2.2.1.2).2.1
  have b0 := pp'.1
  refine ⟨by omega, by omega, c_publicNumber (by omega) mo hw (fun x x0 x1 xw _ => ⟨by omega, ?_⟩) (fun no => absurd qw (no q qb.1 qb.2))⟩
  have px : PPc σ w m x := ⟨mb, mt, ⟨x0, x1⟩, xw⟩
  rw [hu m' q' m x pp' px]; exact hQ m x px
/-- the class's image holds t -/
def IHc (σ : ZS) (t : IGv) : Prop := (∀ j : Int, 0 ≤ j → j < 1200 → zA σ 17 2 j = t.b j) ∧ zI σ 17 3 = t.n ∧ (∀ i : Int, 0 ≤ i → i < t.n → zA σ 17 4 i = t.r i)
theorem x_addWord {σ : ZS} {a b : Int} {h : Int → Int} {Q : ZS → Prop} (hi : IMc σ) (hb : ∀ j : Int, 0 ≤ j → j < 1200 → zA σ 17 2 j = h j) (ha : 0 ≤ a ∧ a + 1 < 1200) (hv : -1000000 ≤ b ∧ b ≤ 1000000) (hQ : ∀ τ : ZS, IMc τ → kp [17] σ τ → (∀ j : Int, 0 ≤ j → j < 1200 → zA τ 17 2 j = wdF h a b j) → zA τ 17 4 = zA σ 17 4 → (∀ f : Nat, zI τ 17 f = zI σ 17 f) → Q τ) : wpX1_addWord a b σ Q := by
  obtain ⟨i0, i1, i2, i3, i4, i5, i6⟩ := hi
  have b1 := i2 a (by omega) (by omega)
  have b2 := i2 (a + 1) (by omega) (by omega)
  unfold wpX1_addWord wpX1_addWord_62
  refine ⟨by omega, fun q => absurd q (by omega), fun _ => ⟨by omega, fun q => absurd q (by omega), fun _ => ⟨by omega, by omega, by omega, hQ _ ⟨i0, i1, rng_zu (rng_zu i2 (by omega)) (by omega), i3, i4, i5, i6⟩ ((kp.rf.ta (by decide)).ta (by decide)) (fun j j0 j1 => ?_) rfl (fun _ => rfl)⟩⟩⟩
  show zu (zu (zA σ 17 2) a _) (a + 1) _ j = wdF h a b j
  unfold wdF
  rw [hb a (by omega) (by omega), hb (a + 1) (by omega) (by omega)]
  by_cases e : j = a + 1
  · rw [e, pu_eq, pu_eq]
  · rw [pu_ne e, pu_ne e]
    by_cases e2 : j = a
    · rw [e2, pu_eq, pu_eq]
    · rw [pu_ne e2, pu_ne e2]; exact hb j j0 j1
/-- what is added at a fixup -/
def VS (σ : ZS) (m k v : Int) : Prop := (zA σ m 8 k = 1 → (0 ≤ zA σ m 11 k → v = zA σ 16 3 (zA σ 16 5 (m * 24 + zA σ m 11 k)) / 16) ∧ (zA σ m 11 k < 0 → ∀ m' q : Int, PPc σ (zA σ m 12 k) m' q → v = zA σ 16 3 (zA σ 16 5 (m' * 24 + zA σ m' 15 q)) / 16)) ∧ (zA σ m 8 k = 2 → ∀ m' q : Int, PPc σ (zA σ m 12 k) m' q → v = zA σ 16 6 (m' * 24 + zA σ m' 15 q) + zA σ m' 16 q - (zA σ 16 6 (m * 24 + zA σ m 9 k) + zA σ m 10 k + 2)) ∧ (¬ zA σ m 8 k = 1 → ¬ zA σ m 8 k = 2 → (0 ≤ zA σ m 11 k → v = zA σ 16 6 (m * 24 + zA σ m 11 k)) ∧ (zA σ m 11 k < 0 → ∀ m' q : Int, PPc σ (zA σ m 12 k) m' q → v = zA σ 16 6 (m' * 24 + zA σ m' 15 q) + zA σ m' 16 q))
theorem PPc.k {σ τ : ZS} (e : kp [17] σ τ) {w m q : Int} : PPc τ w m q ↔ PPc σ w m q := by
  unfold PPc
  constructor
  · rintro ⟨mb, x⟩
    have em := e m (n_1 (by omega))
    rw [ob_I em 0, ob_I em 13, ob_A em 14] at x
    exact ⟨mb, x⟩
  · rintro ⟨mb, x⟩
    have em := e m (n_1 (by omega))
    rw [ob_I em 0, ob_I em 13, ob_A em 14]
    exact ⟨mb, x⟩
theorem VS.k {σ τ : ZS} {m k v : Int} (e : kp [17] σ τ) (hm : 0 ≤ m ∧ m ≤ 2) (h : VS σ m k v) : VS τ m k v := by
  have em := e m (n_1 (by omega))
  have e16 := e 16 (by decide)
  have e15 : ∀ w m' q : Int, PPc τ w m' q → zA τ m' 15 = zA σ m' 15 ∧ zA τ m' 16 = zA σ m' 16 := fun w m' q p => by
    have b := p.1
    have e' := e m' (n_1 (by omega))
    exact ⟨ob_A e' 15, ob_A e' 16⟩
  unfold VS at h ⊢
  rw [ob_A em 8, ob_A em 9, ob_A em 10, ob_A em 11, ob_A em 12, ob_A e16 3, ob_A e16 5, ob_A e16 6]
  obtain ⟨h1, h2, h3⟩ := h
  refine ⟨fun a => ⟨(h1 a).1, fun b m' q p => ?_⟩, fun a m' q p => ?_, fun a a2 => ⟨(h3 a a2).1, fun b m' q p => ?_⟩⟩
  · rw [(e15 _ m' q p).1]; exact (h1 a).2 b m' q ((PPc.k e).mp p)
  · rw [(e15 _ m' q p).1, (e15 _ m' q p).2]; exact h2 a m' q ((PPc.k e).mp p)
  · rw [(e15 _ m' q p).1, (e15 _ m' q p).2]; exact (h3 a a2).2 b m' q ((PPc.k e).mp p)
theorem x_solve {σ : ZS} {m k : Int} {t : IGv} {T V K : Int → Int} {Q : ZS → Prop} (h : M3 σ) (hl : LKc σ) (hi : IMc σ) (hm : 0 ≤ m ∧ m ≤ 2) (hk : 0 ≤ k ∧ k < zI σ m 7) (hB : IHc σ t) (hT : T (200 * m + k) = zA σ 16 3 (zA σ 16 5 (m * 24 + zA σ m 9 k)) + zA σ 16 6 (m * 24 + zA σ m 9 k) + zA σ m 10 k) (hT1 : T (200 * m + k) + 1 < 1200) (hK : K (200 * m + k) = zA σ m 8 k) (hn : t.n < 600) (hx : (zA σ m 11 k < 0 ∨ zA σ m 8 k = 2) → PbC σ (zA σ m 12 k) 3) (hu : ∀ w m q m' q' : Int, PPc σ w m q → PPc σ w m' q' → m * 24 + zA σ m 15 q = m' * 24 + zA σ m' 15 q') (hV : VS σ m k (V (200 * m + k))) (hQ : ∀ τ : ZS, IMc τ → kp [17] σ τ → IHc τ (ifx T V K t (200 * m + k)) → (zI τ 17 0 = zI σ 17 0 ∧ zI τ 17 1 = zI σ 17 1) → Q τ) : wpX3_solve m k σ Q := by
  have mo := h m hm.1 hm.2
  have h7 := mo.2.2.1
  obtain ⟨p1, p2, p3, p4, p5⟩ := mo.2.2.2.2.2.2.1 k hk.1 hk.2
  obtain ⟨l1, l2, l3, l4, l5, l6⟩ := hl
  have w1 := l5 (m * 24 + zA σ m 9 k) (by omega) (by omega)
  have w2 := l4 _ w1.1 (show zA σ 16 5 (m * 24 + zA σ m 9 k) < 72 by omega)
  have w3 := l6 (m * 24 + zA σ m 9 k) (by omega) (by omega)
  obtain ⟨v1, v2, v3⟩ := hV
  obtain ⟨f, ef⟩ : ∃ f, f = 200 * m + k := ⟨_, rfl⟩
  rw [← ef] at hT hT1 hK v1 v2 v3 hQ
  -- not a paragraph
  have plain : ∀ b : Int, ¬ zA σ m 8 k = 1 → b = V f → (-1000000 ≤ b ∧ b ≤ 1000000) → wpX1_addWord (T f) b σ Q := by
    intro b n1 eb hb
    refine x_addWord hi hB.1 ⟨by omega, hT1⟩ hb (fun τ ti tk tb tr tf => hQ τ ti tk ⟨fun j j0 j1 => ?_, ?_, fun i i0 i1 => ?_⟩ ⟨tf 0, tf 1⟩)
    · rw [tb j j0 j1, eb]; rfl
    · rw [tf 3, hB.2.1]
      show t.n = if K f = 1 then t.n + 1 else t.n
      rw [if_neg (by rw [hK]; exact n1)]
    · have i1' : i < (if K f = 1 then t.n + 1 else t.n) := i1
      rw [if_neg (by rw [hK]; exact n1)] at i1'
      show zA τ 17 4 i = (if K f = 1 then zu t.r t.n (T f) else t.r) i
      rw [if_neg (by rw [hK]; exact n1), tr]; exact hB.2.2 i i0 i1'
  have para : ∀ b : Int, zA σ m 8 k = 1 → b = V f → (-1000000 ≤ b ∧ b ≤ 1000000) → wpX1_addWord (T f) b σ (fun (σ24 : ZS) => wpX1_addRelocation (T f) σ24 (fun (σ26 : ZS) => wpX3_solve_202 σ26 Q)) := by
    intro b n1 eb hb
    refine x_addWord hi hB.1 ⟨by omega, hT1⟩ hb (fun τ ti tk tb tr tf => ?_)
    have e3 : zI τ 17 3 = t.n := by rw [tf 3, hB.2.1]
    obtain ⟨i0, i1, i2, i3, i4, i5, i6⟩ := ti
    unfold wpX1_addRelocation wpX1_addRelocation_30 wpX3_solve_202
    rw [e3]
    refine ⟨by omega, fun q => absurd q (by omega), fun _ => ⟨by omega, hQ _ ⟨i0, i1, i2, ?_, rng_zu i4 (by omega), i5, i6⟩ ((tk.ta (by decide)).ti (by decide)) ⟨fun j j0 j1 => ?_, ?_, fun i j0 j1 => ?_⟩ ⟨tf 0, tf 1⟩⟩⟩
    · show 0 ≤ t.n + 1 ∧ t.n + 1 ≤ 600
      omega
    · show zA τ 17 2 j = _
      rw [tb j j0 j1, eb]; rfl
    · show t.n + 1 = if K f = 1 then t.n + 1 else t.n
      rw [if_pos (by rw [hK]; exact n1)]
    · have j1' : i < (if K f = 1 then t.n + 1 else t.n) := j1
      rw [if_pos (by rw [hK]; exact n1)] at j1'
      show zu (zA τ 17 4) t.n (T f) i = (if K f = 1 then zu t.r t.n (T f) else t.r) i
      rw [if_pos (by rw [hK]; exact n1)]
      by_cases e : i = t.n
      · rw [e, pu_eq, pu_eq]
      · rw [pu_ne e, pu_ne e, tr]; exact hB.2.2 i j0 (by omega)
  have off : ∀ m' q : Int, PPc σ (zA σ m 12 k) m' q → (0 ≤ zA σ 16 6 (m' * 24 + zA σ m' 15 q) + zA σ m' 16 q ∧ zA σ 16 6 (m' * 24 + zA σ m' 15 q) + zA σ m' 16 q ≤ 50000) ∧ (0 ≤ m' * 24 + zA σ m' 15 q ∧ m' * 24 + zA σ m' 15 q < 72) := by
    intro m' q ⟨mb, _, qb, _⟩
    have x := (h m' mb.1 (by omega)).2.2.2.2.2.2.2 q qb.1 qb.2
    have y := x.2.1
    have z := x.2.2
    have g := l6 (m' * 24 + zA σ m' 15 q) (by omega) (by omega)
    omega
  have f72 : ∀ s x : Int, (s = 0 ∧ 0 ≤ zA σ m 11 k ∧ x = m * 24 + zA σ m 11 k) ∨ (s = 1 ∧ zA σ m 11 k < 0 ∧ ∃ m' q : Int, PPc σ (zA σ m 12 k) m' q ∧ x = m' * 24 + zA σ m' 15 q) → wpX3_solve_72 k m s (zA σ m 12 k) (m * 24 + zA σ m 9 k) x σ Q := by
    intro s x hs
    have hx72 : 0 ≤ x ∧ x < 72 := by
      rcases hs with ⟨-, q, e⟩ | ⟨-, -, m', q, pp, e⟩
      · omega
      · have := (off m' q pp).2; omega
    have x5 := l5 x hx72.1 hx72.2
    have x3 := l4 _ x5.1 (show zA σ 16 5 x < 72 by omega)
    have x6 := l6 x hx72.1 hx72.2
    unfold wpX3_solve_72 wpX3_placeOf wpX3_solve_199 wpX3_solve_202
    dsimp only
    rw [← hT]
    refine ⟨by omega, by omega, hm, by omega, by omega, fun n1 => ⟨fun n2 => ⟨by rcases hs with ⟨e, -⟩ | ⟨e, -⟩ <;> omega, fun e0 => ⟨hx72, plain _ n1 ?_ (by omega)⟩, fun e1 => x_publicOffset h p5 (hx (Or.inl ?_)) (hu _) (fun m' q pp => plain _ n1 ?_ ?_)⟩, fun e2 => x_publicOffset h p5 (hx (Or.inr e2)) (hu _) (fun m' q pp => ⟨by omega, plain _ n1 ?_ ?_⟩)⟩, fun e1 => ⟨hx72, by omega, by omega, para _ e1 ?_ (by omega)⟩⟩
    · rcases hs with ⟨-, a, e⟩ | ⟨e, -⟩
      · rw [(v3 n1 n2).1 a, e]
      · exact absurd e (by omega)
    · rcases hs with ⟨e, -⟩ | ⟨-, a, -⟩
      · exact absurd e e1
      · exact a
    · rcases hs with ⟨e, -⟩ | ⟨-, a, -⟩
      · exact absurd e e1
      · rw [(v3 n1 n2).2 a m' q pp]
    · have := (off m' q pp).1; omega
    · rw [v2 e2 m' q pp]
    · have := (off m' q pp).1; omega
    · rcases hs with ⟨-, a, e⟩ | ⟨-, a, m', q, pp, e⟩
      · rw [(v1 e1).1 a, e]
      · rw [(v1 e1).2 a m' q pp, e]
  have f23 : ∀ s : Int, (s = 0 ∧ 0 ≤ zA σ m 11 k) ∨ (s = 1 ∧ zA σ m 11 k < 0) → wpX3_solve_23 m k m s σ Q := by
    intro s hs
    unfold wpX3_solve_23 wpX3_part
    refine ⟨hm, by omega, by omega, fun e => f72 s _ (Or.inl ⟨e, by omega, rfl⟩), fun e => x_publicPart h p5 (hx (Or.inl (by omega))) (fun m' q pp => f72 s _ (Or.inr ⟨by omega, by omega, m', q, pp, rfl⟩))⟩
  unfold wpX3_solve
  exact ⟨by omega, by omega, by omega, fun q => f23 0 (Or.inl ⟨rfl, q⟩), fun q => f23 1 (Or.inr ⟨rfl, by omega⟩)⟩
/-! X: the class writes the image, exactly: all of it -/
theorem ifA_n {T V K D : Int → Int} {t : IGv} : ∀ m : Nat, (∀ i : Int, 0 ≤ i → i < m → 0 ≤ D i ∧ D i ≤ 200) → t.n ≤ (ifA T V K D t m).n ∧ (ifA T V K D t m).n ≤ t.n + 200 * m
  | 0, _ => ⟨Int.le_refl _, by show t.n ≤ t.n + 200 * ((0 : Nat) : Int); omega⟩
  | m + 1, hd => by
    have ih := ifA_n (T := T) (V := V) (K := K) (t := t) m (fun i i0 i1 => hd i i0 (by omega))
    have hm := hd m (by omega) (by omega)
    have s := ifS_n (T := T) (V := V) (K := K) (m := m) (t := ifA T V K D t m) (D m).toNat
    show t.n ≤ (ifS T V K m (ifA T V K D t m) (D m).toNat).n ∧ (ifS T V K m (ifA T V K D t m) (D m).toNat).n ≤ t.n + 200 * ((m + 1 : Nat) : Int)
    omega
/-- the data of an image, as the class has them -/
def XD (σ : ZS) (L Z : Int → Int) (S : Int → Int → Int) (T V K : Int → Int) (pp po : Int) : Prop := (∀ m s : Int, 0 ≤ m → m ≤ 2 → 0 ≤ s → s < zI σ m 1 → L (24 * m + s) = zA σ 16 3 (zA σ 16 5 (m * 24 + s)) + zA σ 16 6 (m * 24 + s) ∧ Z (24 * m + s) = zA σ m 4 s ∧ ∀ i : Int, S (24 * m + s) i = zA σ m 6 (zA σ m 5 s + i)) ∧ (∀ m k : Int, 0 ≤ m → m ≤ 2 → 0 ≤ k → k < zI σ m 7 → T (200 * m + k) = zA σ 16 3 (zA σ 16 5 (m * 24 + zA σ m 9 k)) + zA σ 16 6 (m * 24 + zA σ m 9 k) + zA σ m 10 k ∧ T (200 * m + k) + 1 < 1200 ∧ K (200 * m + k) = zA σ m 8 k ∧ VS σ m k (V (200 * m + k)) ∧ ((zA σ m 11 k < 0 ∨ zA σ m 8 k = 2) → PbC σ (zA σ m 12 k) 3)) ∧ (∀ m q : Int, PPc σ 230192366 m q → pp = zA σ 16 3 (zA σ 16 5 (m * 24 + zA σ m 15 q)) / 16 ∧ po = zA σ 16 6 (m * 24 + zA σ m 15 q) + zA σ m 16 q)
theorem x_lwrite {σ : ZS} {a pp po : Int} {L Z T V K : Int → Int} {S : Int → Int → Int} {Q : ZS → Prop} (h : M3 σ) (hl : LKc σ) (hi : IMc σ) (ha : 0 ≤ a ∧ a ≤ 1200) (hp : PLC σ a) (hd : XD σ L Z S T V K pp po) (hmn : PbC σ 230192366 3) (hu : ∀ w m q m' q' : Int, PPc σ w m q → PPc σ w m' q' → m * 24 + zA σ m 15 q = m' * 24 + zA σ m' 15 q') (hQ : ∀ τ : ZS, IMc τ → kp [17] σ τ → zI τ 17 0 = 1 → zI τ 17 1 = a → IHc τ (ifA T V K (fun m => zI σ m 7) (icA L Z S (fun m => zI σ m 1) 3, 0, fun _ => 0) 3) → zI τ 17 5 = pp → zI τ 17 6 = po → Q τ) : wpX3_write a σ Q := by
  obtain ⟨l1, l2, l3, l4, l5, l6⟩ := hl
  have hl : LKc σ := ⟨l1, l2, l3, l4, l5, l6⟩
  obtain ⟨dL, dT, dM⟩ := hd
  have m3 : ∀ τ : ZS, kp [17] σ τ → M3 τ := fun τ k => h.k k (by decide) (by decide) (by decide)
  have lk : ∀ τ : ZS, kp [17] σ τ → LKc τ := fun τ k => hl.k (k 16 (by decide))
  have hu' : ∀ τ : ZS, kp [17] σ τ → ∀ w m q m' q' : Int, PPc τ w m q → PPc τ w m' q' → m * 24 + zA τ m 15 q = m' * 24 + zA τ m' 15 q' := by
    intro τ e w m q m' q' p p'
    have b := p.1
    have b' := p'.1
    rw [ob_A (e m (n_1 (by omega))) 15, ob_A (e m' (n_1 (by omega))) 15]
    exact hu w m q m' q' ((PPc.k e).mp p) ((PPc.k e).mp p')
  have pbe : ∀ (τ : ZS) (w : Int), kp [17] σ τ → PbC σ w 3 → PbC τ w 3 := by
    rintro τ w e ⟨m, q, mb, mt, qb, qw⟩
    have em := e m (n_1 (by omega))
    exact ⟨m, q, mb, by rw [ob_I em 0]; exact mt, by rw [ob_I em 13]; exact qb, by rw [ob_A em 14]; exact qw⟩
  have d7 : ∀ i : Int, 0 ≤ i → i < 3 → 0 ≤ (fun m => zI σ m 7) i ∧ (fun m => zI σ m 7) i ≤ 200 := fun i i0 i1 => (h i i0 (by omega)).2.2.1
  obtain ⟨t0, et0⟩ : ∃ t0 : IGv, t0 = (icA L Z S (fun m => zI σ m 1) 3, 0, fun _ => 0) := ⟨_, rfl⟩
  rw [← et0] at hQ
  have t0n : t0.n = 0 := by rw [et0]; rfl
  -- fixups
  have f89 : ∀ τ : ZS, IMc τ → kp [17] σ τ → zI τ 17 0 = 1 → zI τ 17 1 = a → IHc τ t0 → wpX3_write_89 0 τ Q := by
    intro τ ti tk q0 q1 tB
    unfold wpX3_write_89
    refine lfp1_ind (fun v _ => (3 - v).toNat) (fun v υ => IMc υ ∧ kp [17] σ υ ∧ (0 ≤ v ∧ v ≤ 3) ∧ (zI υ 17 0 = 1 ∧ zI υ 17 1 = a) ∧ IHc υ (ifA T V K (fun m => zI σ m 7) t0 v.toNat)) (fun K' v υ hI ih => ?_) ⟨ti, tk, by decide, ⟨q0, q1⟩, tB⟩
    obtain ⟨ui, uk, hv, ⟨u0, u1⟩, uB⟩ := hI
    have um := m3 υ uk
    have ul := lk υ uk
    unfold wpbX3_write_89 wpX3_write_97
    refine ⟨by omega, fun q => x_publicPart um (by decide) (pbe υ _ uk hmn) (fun m' q' pp' => ?_), fun q => ?_⟩
    · have ev : v = 3 := by omega
      rw [ev] at uB
      have b := pp'.1
      have px := (PPc.k uk).mp pp'
      have em := uk m' (n_1 (by omega))
      have e16 := uk 16 (by decide)
      have mb := ((h m' b.1 (by omega)).2.2.2.2.2.2.2 q' px.2.2.1.1 px.2.2.1.2).2.1
      obtain ⟨x1, x2⟩ := dM m' q' px
      rw [ob_A em 15, ob_A e16 5, ob_A e16 3]
      have y5 := l5 (m' * 24 + zA σ m' 15 q') (by omega) (by omega)
      have y3 := l4 _ y5.1 (show zA σ 16 5 (m' * 24 + zA σ m' 15 q') < 72 by omega)
      have k5 : kp [17] σ (zsI υ 17 5 (zA σ 16 3 (zA σ 16 5 (m' * 24 + zA σ m' 15 q')) / 16)) := uk.ti (by decide)
      refine ⟨by omega, by omega, by omega, x_publicOffset (m3 _ k5) (by decide) (pbe _ _ k5 hmn) (hu' _ k5 _) (fun m2 q2 p2 => ?_)⟩
      have b2 := p2.1
      have p2' := (PPc.k k5).mp p2
      obtain ⟨z1, z2⟩ := dM m2 q2 p2'
      rw [ob_A (k5 m2 (n_1 (by omega))) 15, ob_A (k5 m2 (n_1 (by omega))) 16, ob_A (k5 16 (by decide)) 6, ← z2, ← x1]
      obtain ⟨i0, i1, i2, i3, i4, i5, i6⟩ := ui
      have mb2 := (h m2 b2.1 (by omega)).2.2.2.2.2.2.2 q2 p2'.2.2.1.1 p2'.2.2.1.2
      have g15 := mb2.2.1
      have g16 := mb2.2.2
      have g6 := l6 (m2 * 24 + zA σ m2 15 q2) (by omega) (by omega)
      refine hQ _ ⟨i0, i1, i2, i3, i4, ?_, ?_⟩ ((uk.ti (by decide)).ti (by decide)) u0 u1 uB rfl rfl
      · show 0 ≤ pp ∧ pp ≤ 200000
        omega
      · show 0 ≤ po ∧ po ≤ 100000
        omega
    · have h7 := (um v hv.1 (by omega)).2.2.1
      have ev7 : zI υ v 7 = zI σ v 7 := ob_I (uk v (n_1 (by omega))) 7
      refine lfp1_ind (fun u _ => (200 - u).toNat) (fun u ω => IMc ω ∧ kp [17] σ ω ∧ (0 ≤ u ∧ u ≤ zI σ v 7) ∧ (zI ω 17 0 = 1 ∧ zI ω 17 1 = a) ∧ IHc ω (ifS T V K v (ifA T V K (fun m => zI σ m 7) t0 v.toNat) u.toNat)) (fun K2 u ω hI' ih' => ?_) ⟨ui, uk, by omega, ⟨u0, u1⟩, uB⟩
      obtain ⟨wi, wk, hu2, ⟨w0, w1⟩, wB⟩ := hI'
      have wm := m3 ω wk
      have ev := wk v (n_1 (by omega))
      have e16 := wk 16 (by decide)
      have e7 : zI ω v 7 = zI σ v 7 := ob_I ev 7
      unfold wpbX3_write_97
      rw [e7]
      refine ⟨by omega, by omega, by omega, fun q' => ih _ _ ⟨wi, wk, by omega, ⟨w0, w1⟩, ?_⟩ (by omega), fun q' => ?_⟩
      · rw [show (v + 1).toNat = v.toNat + 1 by omega]
        show IHc ω (ifS T V K ((v.toNat : Nat) : Int) (ifA T V K (fun m => zI σ m 7) t0 v.toNat) (zI σ ((v.toNat : Nat) : Int) 7).toNat)
        rw [show ((v.toNat : Nat) : Int) = v by omega, show zI σ v 7 = u by omega]; exact wB
      · obtain ⟨g1, g2, g3, g4, g5⟩ := dT v u hv.1 (by omega) hu2.1 (by omega)
        have n1 := ifA_n (T := T) (V := V) (K := K) (t := t0) (D := fun m => zI σ m 7) v.toNat (fun i i0 i1 => d7 i i0 (by omega))
        have n2 := ifS_n (T := T) (V := V) (K := K) (m := v) (t := ifA T V K (fun m => zI σ m 7) t0 v.toNat) u.toNat
        refine x_solve wm (lk ω wk) wi (by omega) ⟨hu2.1, by rw [e7]; omega⟩ wB ?_ g2 (by rw [ob_A ev 8]; exact g3) (by omega) (fun o => ?_) (hu' ω wk) (g4.k wk (by omega)) (fun ψ pi pk pB pf => ih' _ _ ⟨pi, wk.tr pk, by omega, ⟨by rw [pf.1]; exact w0, by rw [pf.2]; exact w1⟩, ?_⟩ (by omega))
        · rw [ob_A ev 9, ob_A ev 10, ob_A e16 3, ob_A e16 5, ob_A e16 6]; exact g1
        · rw [ob_A ev 11, ob_A ev 8] at o
          rw [ob_A ev 12]; exact pbe ω _ wk (g5 o)
        · rw [show (u + 1).toNat = u.toNat + 1 by omega]
          show IHc ψ (ifx T V K (ifS T V K v (ifA T V K (fun m => zI σ m 7) t0 v.toNat) u.toNat) (200 * v + ((u.toNat : Nat) : Int)))
          rw [show ((u.toNat : Nat) : Int) = u by omega]; exact pB
  unfold wpX3_write wpX1_begin
  refine c_fill17_2 (fun k hk => ?_)
  have k0 : kp [17] σ (zsF (zsI (zsI (zsI σ 17 0 1) 17 1 a) 17 3 0) 17 2 k) := (((kp.rf.ti (by decide)).ti (by decide)).ti (by decide)).tf (by decide)
  have im0 : IMc (zsF (zsI (zsI (zsI σ 17 0 1) 17 1 a) 17 3 0) 17 2 k) := by
    obtain ⟨i0, i1, i2, i3, i4, i5, i6⟩ := hi
    refine ⟨?_, ha, fun i i0 i1 => ?_, ?_, i4, i5, i6⟩
    · show (0 : Int) ≤ 1 ∧ (1 : Int) ≤ 1
      decide
    · show 0 ≤ k i ∧ k i ≤ 255
      rw [hk i i0 i1]; decide
    · show (0 : Int) ≤ 0 ∧ (0 : Int) ≤ 600
      decide
  unfold wpX3_write_7
  refine lfp1_ind (fun v _ => (3 - v).toNat) (fun v υ => IMc υ ∧ kp [17] σ υ ∧ (0 ≤ v ∧ v ≤ 3) ∧ (zI υ 17 0 = 1 ∧ zI υ 17 1 = a ∧ zI υ 17 3 = 0) ∧ (∀ j : Int, 0 ≤ j → j < 1200 → zA υ 17 2 j = icA L Z S (fun m => zI σ m 1) v.toNat j)) (fun K' v υ hI ih => ?_) ⟨im0, k0, by decide, ⟨rfl, rfl, rfl⟩, hk⟩
  obtain ⟨ui, uk, hv, ⟨u0, u1, u3⟩, ub⟩ := hI
  unfold wpbX3_write_7 wpX3_write_15
  refine ⟨by omega, fun q => f89 υ ui uk u0 u1 ⟨?_, by rw [u3, t0n], fun i i0 i1 => by rw [t0n] at i1; omega⟩, fun q => ?_⟩
  · rw [show v = 3 by omega] at ub
    rw [et0]; exact ub
  have m1 := h v hv.1 (by omega)
  refine lfp1_ind (fun u _ => (24 - u).toNat) (fun u ω => IMc ω ∧ kp [17] σ ω ∧ (0 ≤ u ∧ u ≤ zI σ v 1) ∧ (zI ω 17 0 = 1 ∧ zI ω 17 1 = a ∧ zI ω 17 3 = 0) ∧ (∀ j : Int, 0 ≤ j → j < 1200 → zA ω 17 2 j = icS L Z S v (icA L Z S (fun m => zI σ m 1) v.toNat) u.toNat j)) (fun K2 u ω hI' ih' => ?_) ⟨ui, uk, by have := m1.2.1; omega, ⟨u0, u1, u3⟩, ub⟩
  obtain ⟨wi, wk, hu2, ⟨w0, w1, w3⟩, wb⟩ := hI'
  have wv := wk v (n_1 (by omega))
  have w16 := wk 16 (by decide)
  have s1 := m1.2.1
  unfold wpbX3_write_15 wpX3_part wpX3_placeOf
  dsimp only
  rw [ob_I wv 1, ob_A wv 5, ob_A wv 4, ob_A wv 6, ob_A w16 5, ob_A w16 3, ob_A w16 6]
  refine ⟨by omega, by omega, by omega, fun q' => ih _ _ ⟨wi, wk, by omega, ⟨w0, w1, w3⟩, fun j j0 j1 => ?_⟩ (by omega), fun q' => ?_⟩
  · rw [wb j j0 j1, show (v + 1).toNat = v.toNat + 1 by omega]
    show _ = icS L Z S ((v.toNat : Nat) : Int) (icA L Z S (fun m => zI σ m 1) v.toNat) (zI σ ((v.toNat : Nat) : Int) 1).toNat j
    rw [show ((v.toNat : Nat) : Int) = v by omega, show zI σ v 1 = u by omega]
  obtain ⟨g1, g2, g3, g4, g5⟩ := m1.2.2.2.2.1 u hu2.1 (by omega)
  have pl := hp v u hv.1 (by omega) hu2.1 (by omega)
  have y5 := l5 (v * 24 + u) (by omega) (by omega)
  have y3 := l4 _ y5.1 (show zA σ 16 5 (v * 24 + u) < 72 by omega)
  have y6 := l6 (v * 24 + u) (by omega) (by omega)
  obtain ⟨e1, e2, e3⟩ := dL v u hv.1 (by omega) hu2.1 (by omega)
  refine ⟨by omega, by omega, by omega, ⟨g4, by omega, g3, g5, by omega⟩, ih' _ _ ⟨?_, wk.tf (by decide), by omega, ⟨w0, w1, w3⟩, fun j j0 j1 => ?_⟩ (by omega)⟩
  · obtain ⟨i0, i1, i2, i3, i4, i5, i6⟩ := wi
    exact ⟨i0, i1, zcpy_bd m1.2.2.2.2.2.1 i2 ⟨g4, g5⟩, i3, i4, i5, i6⟩
  · rw [show (u + 1).toNat = u.toNat + 1 by omega]
    show (if zA σ 16 3 (zA σ 16 5 (v * 24 + u)) + zA σ 16 6 (v * 24 + u) ≤ j ∧ j < zA σ 16 3 (zA σ 16 5 (v * 24 + u)) + zA σ 16 6 (v * 24 + u) + zA σ v 4 u then zA σ v 6 (zA σ v 5 u + (j - (zA σ 16 3 (zA σ 16 5 (v * 24 + u)) + zA σ 16 6 (v * 24 + u)))) else zA ω 17 2 j) = icP L Z S (icS L Z S v (icA L Z S (fun m => zI σ m 1) v.toNat) u.toNat) (24 * v + ((u.toNat : Nat) : Int)) j
    rw [show ((u.toNat : Nat) : Int) = u by omega]
    unfold icP
    rw [e1, e2, e3, wb j j0 j1]
/-! Y: the reference writes the image, exactly -/
theorem y_aboutSeg2 {σ : ZS} {m k : Int} {Q : Int → ZS → Prop} (hL : LK σ) (hm : 0 ≤ m ∧ m ≤ 2) (h43 : zA σ 0 43 m ≠ 0) (hk : 0 ≤ k ∧ k < zA σ 0 50 m) (h1 : 0 ≤ zA σ 0 54 (200 * m + k) → (0 ≤ zA σ 0 71 (24 * m + zA σ 0 54 (200 * m + k)) ∧ zA σ 0 71 (24 * m + zA σ 0 54 (200 * m + k)) < zI σ 0 73) → Q (zA σ 0 71 (24 * m + zA σ 0 54 (200 * m + k))) σ) (h2 : zA σ 0 54 (200 * m + k) < 0 → ∀ m' k' : Int, PPr σ (zA σ 0 55 (200 * m + k)) m' k' → (0 ≤ zA σ 0 71 (24 * m' + zA σ 0 58 (80 * m' + k')) ∧ zA σ 0 71 (24 * m' + zA σ 0 58 (80 * m' + k')) < zI σ 0 73) → Q (zA σ 0 71 (24 * m' + zA σ 0 58 (80 * m' + k'))) σ) : wpX11_aboutSegment m (200 * m + k) σ Q := by
  by_cases neg : zA σ 0 54 (200 * m + k) < 0
  · exact y_aboutSegment hL hm h43 hk neg (h2 neg)
  · obtain ⟨hA, hC, hN, -⟩ := hL
    have hMI := hA.2 m hm.1 hm.2
    have h50 := hMI.1.2.1
    have h44 := hMI.1.1
    have hfx := (hMI.2.2.1 k hk.1 hk.2).2.2.2.2
    have hc := (hC.2.1 m _ hm.1 hm.2 (by omega) hfx.2 h43).1
    unfold wpX11_aboutSegment
    exact ⟨by omega, by omega, fun l => absurd l neg, fun _ => ⟨by omega, h1 (by omega) hc⟩⟩
theorem y_aboutOffset {σ : ZS} {m k : Int} {Q : Int → ZS → Prop} (hL : LK σ) (hm : 0 ≤ m ∧ m ≤ 2) (h43 : zA σ 0 43 m ≠ 0) (hk : 0 ≤ k ∧ k < zA σ 0 50 m) (h1 : 0 ≤ zA σ 0 54 (200 * m + k) → (0 ≤ zA σ 0 72 (24 * m + zA σ 0 54 (200 * m + k)) ∧ zA σ 0 72 (24 * m + zA σ 0 54 (200 * m + k)) ≤ 100000) → Q (zA σ 0 72 (24 * m + zA σ 0 54 (200 * m + k))) σ) (h2 : zA σ 0 54 (200 * m + k) < 0 → ∀ m' k' : Int, PPr σ (zA σ 0 55 (200 * m + k)) m' k' → (0 ≤ zA σ 0 72 (24 * m' + zA σ 0 58 (80 * m' + k')) + zA σ 0 59 (80 * m' + k') ∧ zA σ 0 72 (24 * m' + zA σ 0 58 (80 * m' + k')) + zA σ 0 59 (80 * m' + k') ≤ 100000) → Q (zA σ 0 72 (24 * m' + zA σ 0 58 (80 * m' + k')) + zA σ 0 59 (80 * m' + k')) σ) : wpX11_aboutOffset m (200 * m + k) σ Q := by
  obtain ⟨hA, hC, hN, -⟩ := hL
  have hMI := hA.2 m hm.1 hm.2
  have h50 := hMI.1.2.1
  have h44 := hMI.1.1
  have hfx := (hMI.2.2.1 k hk.1 hk.2).2.2.2.2
  have h55 := hA.1.2.1 (200 * m + k) (by omega) (by omega)
  have off : ∀ m' s' : Int, 0 ≤ m' → m' ≤ 2 → 0 ≤ s' → s' < zA σ 0 44 m' → zA σ 0 43 m' ≠ 0 → 0 ≤ zA σ 0 72 (24 * m' + s') ∧ zA σ 0 72 (24 * m' + s') ≤ 30000 := by
    intro m' s' m0 m1 s0 s1 h
    have hc := hC.2.1 m' s' m0 m1 s0 s1 h
    have hd := hC.2.2.1 _ hc.1.1 hc.1.2
    have hs := (hA.2 m' m0 m1).2.1 s' s0 s1
    omega
  unfold wpX11_aboutOffset
  refine ⟨by omega, by omega, fun l => ?_, fun nl => ⟨by omega, ?_⟩⟩
  · refine s_publicOf hA h55 (fun q => absurd (hN m k hm.1 hm.2 h43 hk.1 hk.2 l) q) (fun m' k' hm' hk' h43' h57' => ?_)
    have hMI' := hA.2 m' hm'.1 hm'.2
    have h56' := hMI'.1.2.2
    have h44' := hMI'.1.1
    have hp := hMI'.2.2.2 k' hk'.1 hk'.2
    have e : (80 * m' + k') / 80 = m' := by omega
    have hc := off m' _ hm'.1 hm'.2 hp.1.1 hp.1.2 h43'
    rw [e]
    exact ⟨by omega, by omega, by omega, h2 l m' k' ⟨hm', h43', hk', h57'⟩ (by omega)⟩
  · have hc := off m _ hm.1 hm.2 (by omega) hfx.2 h43
    exact h1 (by omega) (by omega)
def IHr (ρ : ZS) (t : IGv) : Prop := (∀ j : Int, 0 ≤ j → j < 1200 → zA ρ 0 61 j = t.b j) ∧ zI ρ 0 64 = t.n ∧ (∀ i : Int, 0 ≤ i → i < t.n → zA ρ 0 63 i = t.r i)
def VR (ρ : ZS) (m k v : Int) : Prop := (zA ρ 0 51 (200 * m + k) = 1 → (0 ≤ zA ρ 0 54 (200 * m + k) → v = zA ρ 0 70 (zA ρ 0 71 (24 * m + zA ρ 0 54 (200 * m + k))) / 16) ∧ (zA ρ 0 54 (200 * m + k) < 0 → ∀ m' k' : Int, PPr ρ (zA ρ 0 55 (200 * m + k)) m' k' → v = zA ρ 0 70 (zA ρ 0 71 (24 * m' + zA ρ 0 58 (80 * m' + k'))) / 16)) ∧ (zA ρ 0 51 (200 * m + k) = 2 → ∀ m' k' : Int, PPr ρ (zA ρ 0 55 (200 * m + k)) m' k' → v = zA ρ 0 72 (24 * m' + zA ρ 0 58 (80 * m' + k')) + zA ρ 0 59 (80 * m' + k') - (zA ρ 0 72 (24 * m + zA ρ 0 52 (200 * m + k)) + zA ρ 0 53 (200 * m + k)) - 2) ∧ (zA ρ 0 51 (200 * m + k) = 0 → (0 ≤ zA ρ 0 54 (200 * m + k) → v = zA ρ 0 72 (24 * m + zA ρ 0 54 (200 * m + k))) ∧ (zA ρ 0 54 (200 * m + k) < 0 → ∀ m' k' : Int, PPr ρ (zA ρ 0 55 (200 * m + k)) m' k' → v = zA ρ 0 72 (24 * m' + zA ρ 0 58 (80 * m' + k')) + zA ρ 0 59 (80 * m' + k')))
theorem y_solve {σ : ZS} {m k : Int} {t : IGv} {T V K : Int → Int} {Q : ZS → Prop} (hL : LK σ) (hI : IM σ) (hm : 0 ≤ m ∧ m ≤ 2) (h43 : zA σ 0 43 m ≠ 0) (hk : 0 ≤ k ∧ k < zA σ 0 50 m) (hB : IHr σ t) (h64 : 0 ≤ t.n ∧ t.n < 600) (hT : T (200 * m + k) = zA σ 0 70 (zA σ 0 71 (24 * m + zA σ 0 52 (200 * m + k))) + (zA σ 0 72 (24 * m + zA σ 0 52 (200 * m + k)) + zA σ 0 53 (200 * m + k))) (hK : K (200 * m + k) = zA σ 0 51 (200 * m + k)) (hV : VR σ m k (V (200 * m + k))) (hneg : zA σ 0 51 (200 * m + k) = 2 → zA σ 0 54 (200 * m + k) < 0) (hz : ¬ zA σ 0 51 (200 * m + k) = 0 → t.b (T (200 * m + k)) = 0 ∧ t.b (T (200 * m + k) + 1) = 0) (hQ : ∀ τ : ZS, fr [64] [61, 63] σ τ → IM τ → IHr τ (ifx T V K t (200 * m + k)) → Q τ) : wpX11_solve m (200 * m + k) σ Q := by
  have hA := hL.1
  have hC := hL.2.1
  have h1200 := hL.2.2.2
  have hMI := hA.2 m hm.1 hm.2
  have h50 := hMI.1.2.1
  have h44 := hMI.1.1
  have hfx := hMI.2.2.1 k hk.1 hk.2
  have hc := hC.2.1 m _ hm.1 hm.2 hfx.2.1.1 hfx.2.1.2 h43
  have hd := hC.2.2.1 _ hc.1.1 hc.1.2
  have h73 := hC.1
  obtain ⟨v4, e4⟩ : ∃ v4, v4 = zA σ 0 72 (24 * m + zA σ 0 52 (200 * m + k)) + zA σ 0 53 (200 * m + k) := ⟨_, rfl⟩
  obtain ⟨v5, e5⟩ : ∃ v5, v5 = zA σ 0 70 (zA σ 0 71 (24 * m + zA σ 0 52 (200 * m + k))) + v4 := ⟨_, rfl⟩
  have h4 : 0 ≤ v4 ∧ v4 ≤ 30000 := by omega
  have h5 : 0 ≤ v5 ∧ v5 + 1 < 1200 := by omega
  have eT : T (200 * m + k) = v5 := by rw [hT, e5, e4]
  obtain ⟨n1, n2, n3⟩ := hV
  obtain ⟨f, ef⟩ : ∃ f, f = 200 * m + k := ⟨_, rfl⟩
  have b0 := hI.1 v5 h5.1 (by omega)
  have b1 := hI.1 (v5 + 1) (by omega) (by omega)
  have c0 := hB.1 v5 h5.1 (by omega)
  have c1 := hB.1 (v5 + 1) (by omega) (by omega)
  rw [← ef] at eT hK n1 n2 n3 hz hQ hneg
  have f155 : ∀ (v6 : Int) (τ : ZS), fr [64] [61, 63] σ τ → IM τ → zA τ 0 61 = zA σ 0 61 → zI τ 0 64 = (if K f = 1 then t.n + 1 else t.n) → (∀ i : Int, 0 ≤ i → i < (if K f = 1 then t.n + 1 else t.n) → zA τ 0 63 i = (if K f = 1 then zu t.r t.n (T f) else t.r) i) → v6 = t.b v5 + 256 * t.b (v5 + 1) + V f → (-1000000 ≤ v6 ∧ v6 ≤ 1000000) → wpX11_solve_155 v5 v6 τ Q := by
    intro v6 τ hf hIt h61 h64' h63 e6 hv
    unfold wpX11_solve_155
    refine ⟨by omega, by omega, by omega, hQ _ ((hf.ta (by decide)).ta (by decide)) ((hIt.u61 (by omega)).u61 (by omega)) ⟨fun j j0 j1 => ?_, h64', h63⟩⟩
    show zu (zu (zA τ 0 61) v5 (v6 % 256)) (v5 + 1) (v6 / 256 % 256) j = wdF t.b (T f) (V f) j
    unfold wdF
    rw [eT, ← e6, h61]
    by_cases q1 : j = v5 + 1
    · rw [q1, pu_eq, pu_eq]
    · rw [pu_ne q1, pu_ne q1]
      by_cases q2 : j = v5
      · rw [q2, pu_eq, pu_eq]
      · rw [pu_ne q2, pu_ne q2]; exact hB.1 j j0 j1
  -- no relocation
  have same : ¬ zA σ 0 51 f = 1 → ∀ v6 : Int, v6 = t.b v5 + 256 * t.b (v5 + 1) + V f → (-1000000 ≤ v6 ∧ v6 ≤ 1000000) → wpX11_solve_155 v5 v6 σ Q := by
    intro nk v6 e hv
    have k1 : ¬ K f = 1 := by rw [hK]; exact nk
    refine f155 v6 σ fr.rf hI rfl ?_ (fun i i0 i1 => ?_) e hv
    · rw [if_neg k1]; exact hB.2.1
    · rw [if_neg k1] at i1 ⊢; exact hB.2.2 i i0 i1
  unfold wpX11_solve
  rw [← e4, ← e5, zor_bytes (by omega) (by omega)]
  refine ⟨by omega, by omega, by omega, by omega, by omega, by omega, fun n0 => ?_, fun q0 => ?_⟩
  · -- kinds 1, 2
    rw [ef] at hz
    rw [← ef] at hz
    have z0 := (hz (by rw [ef]; exact n0)).1
    have z1 := (hz (by rw [ef]; exact n0)).2
    rw [eT] at z0 z1
    unfold wpX11_solve_85
    refine ⟨by omega, by omega, fun nn1 => ?_, fun q1 => ?_⟩
    · have q2 : zA σ 0 51 (200 * m + k) = 2 := by have := hfx.1; omega
      unfold wpX11_solve_132
      refine ⟨by omega, by omega, fun n2' => absurd q2 n2', fun _ => y_aboutOffset hL hm h43 hk (fun p => absurd (hneg (by rw [ef]; exact q2)) (by rw [ef]; omega)) (fun ng m' k' pp bd => same (by rw [ef]; exact nn1) _ ?_ (by omega))⟩
      rw [z0, z1, n2 (by rw [ef]; exact q2) m' k' (by rw [ef]; exact pp), ef, e4]
      omega
    · have k1 : K f = 1 := by rw [hK, ef]; exact q1
      have step : ∀ x : Int, (0 ≤ x ∧ x < zI σ 0 73) → zA σ 0 70 x / 16 = V f → (0 ≤ x ∧ x < 72) ∧ (0 ≤ zA σ 0 70 x ∧ zA σ 0 70 x ≤ 2147483647) ∧ (0 ≤ zI σ 0 64 ∧ zI σ 0 64 < 600) ∧ wpX11_solve_132 m (200 * m + k) v4 v5 (zA σ 0 70 x / 16) (zsI (zsA σ 0 63 (zI σ 0 64) v5) 0 64 (zI σ 0 64 + 1)) Q := by
        intro x hx ev
        have hx2 := hC.2.2.1 x hx.1 hx.2
        refine ⟨by omega, by omega, by rw [hB.2.1]; exact h64, ?_⟩
        unfold wpX11_solve_132
        refine ⟨by omega, ?_, fun _ => f155 _ _ ((fr.rf.ta (by decide)).ti (by decide)) (hI.u63 (by omega)) rfl ?_ (fun i i0 i1 => ?_) ?_ (by omega), fun q2 => absurd (show zA σ 0 51 (200 * m + k) = 2 from q2) (by omega)⟩
        · show -2147483648 ≤ zA σ 0 51 (200 * m + k) ∧ zA σ 0 51 (200 * m + k) ≤ 2147483647
          omega
        · show zI σ 0 64 + 1 = _
          rw [if_pos k1, hB.2.1]
        · rw [if_pos k1] at i1 ⊢
          show zu (zA σ 0 63) (zI σ 0 64) v5 i = zu t.r t.n (T f) i
          rw [hB.2.1, eT]
          by_cases e : i = t.n
          · rw [e, pu_eq, pu_eq]
          · rw [pu_ne e, pu_ne e]; exact hB.2.2 i i0 (by omega)
        · rw [z0, z1, ev]; omega
      exact y_aboutSeg2 hL hm h43 hk (fun p hx => step _ hx (by have := (n1 (by rw [ef]; exact q1)).1 (by rw [ef]; exact p); rw [this, ef])) (fun ng m' k' pp hx => step _ hx (by have := (n1 (by rw [ef]; exact q1)).2 (by rw [ef]; exact ng) m' k' (by rw [ef]; exact pp); rw [this]))
  · have nk1 : ¬ zA σ 0 51 (200 * m + k) = 1 := by omega
    have last : ∀ x : Int, (0 ≤ x ∧ x ≤ 100000) → x = V f → wpX11_solve_85 m (200 * m + k) v4 v5 (zA σ 0 61 (v5 + 1) * 256 + zA σ 0 61 v5 + x) σ Q := by
      intro x hx ev
      unfold wpX11_solve_85 wpX11_solve_132
      refine ⟨by omega, by omega, fun _ => ⟨by omega, by omega, fun _ => same (by rw [ef]; exact nk1) _ ?_ (by omega), fun q2 => absurd q2 (by omega)⟩, fun q1 => absurd q1 nk1⟩
      rw [c0, c1, ev]; omega
    exact y_aboutOffset hL hm h43 hk (fun p bd => last _ bd (by have := (n3 (by rw [ef]; exact q0)).1 (by rw [ef]; exact p); rw [this, ef])) (fun ng m' k' pp bd => last _ bd (by have := (n3 (by rw [ef]; exact q0)).2 (by rw [ef]; exact ng) m' k' (by rw [ef]; exact pp); rw [this]))
/-! Y: the reference writes the image, exactly: all of it -/
def dR (σ : ZS) (m : Int) : Int := if zA σ 0 43 m = 0 then 0 else zA σ 0 50 m
theorem VR.k {σ τ : ZS} {m k v : Int} (e : ∀ j : Nat, j ∉ [61, 63] → zA τ 0 j = zA σ 0 j) (h : VR σ m k v) : VR τ m k v := by
  unfold VR PPr at h ⊢
  rw [e 43 (by decide), e 51 (by decide), e 52 (by decide), e 53 (by decide), e 54 (by decide), e 55 (by decide), e 56 (by decide), e 57 (by decide), e 58 (by decide), e 59 (by decide), e 70 (by decide), e 71 (by decide), e 72 (by decide)]
  exact h
/-- the data of an image, as the reference has them -/
def YDm (τ : ZS) (L Z : Int → Int) (S : Int → Int → Int) (T V K C D : Int → Int) : Prop := (∀ m : Int, 0 ≤ m → m ≤ 2 → C m = cR τ m ∧ D m = dR τ m) ∧ (∀ m s : Int, 0 ≤ m → m ≤ 2 → zA τ 0 43 m ≠ 0 → 0 ≤ s → s < zA τ 0 44 m → L (24 * m + s) = zA τ 0 70 (zA τ 0 71 (24 * m + s)) + zA τ 0 72 (24 * m + s) ∧ Z (24 * m + s) = zA τ 0 48 (24 * m + s) ∧ ∀ i : Int, 0 ≤ i → i < zA τ 0 48 (24 * m + s) → S (24 * m + s) i = zA τ 0 49 (400 * m + zA τ 0 47 (24 * m + s) + i)) ∧ (∀ m k : Int, 0 ≤ m → m ≤ 2 → zA τ 0 43 m ≠ 0 → 0 ≤ k → k < zA τ 0 50 m → T (200 * m + k) = zA τ 0 70 (zA τ 0 71 (24 * m + zA τ 0 52 (200 * m + k))) + (zA τ 0 72 (24 * m + zA τ 0 52 (200 * m + k)) + zA τ 0 53 (200 * m + k)) ∧ K (200 * m + k) = zA τ 0 51 (200 * m + k) ∧ VR τ m k (V (200 * m + k)) ∧ (zA τ 0 51 (200 * m + k) = 2 → zA τ 0 54 (200 * m + k) < 0))
theorem y_142 {τ : ZS} {m0 k0 : Int} {L Z T V K C D : Int → Int} {S : Int → Int → Int} {Q : Int → ZS → Prop} (hL : LK τ) (hIt : IG τ) (hm0 : 0 ≤ m0 ∧ m0 ≤ 2) (h43 : zA τ 0 43 m0 ≠ 0) (hk0 : 0 ≤ k0 ∧ k0 < zA τ 0 56 m0) (hd : YDm τ L Z S T V K C D) (hz : ∀ m k : Nat, (m : Int) < 3 → (k : Int) < D m → ¬ K (200 * m + k) = 0 → (ifS T V K m (ifA T V K D (icA L Z S C 3, 0, fun _ => 0) m) k).b (T (200 * m + k)) = 0 ∧ (ifS T V K m (ifA T V K D (icA L Z S C 3, 0, fun _ => 0) m) k).b (T (200 * m + k) + 1) = 0) (hQ : ∀ υ : ZS, IG υ → fr [3, 4, 60, 62, 64, 65, 66] [61, 63] τ υ → zI υ 0 60 = 1 → zI υ 0 62 = zA τ 0 67 0 → IHr υ (ifA T V K D (icA L Z S C 3, 0, fun _ => 0) 3) → zI υ 0 65 = zA τ 0 70 (zA τ 0 71 (24 * m0 + zA τ 0 58 (80 * m0 + k0))) / 16 → zI υ 0 66 = zA τ 0 72 (24 * m0 + zA τ 0 58 (80 * m0 + k0)) + zA τ 0 59 (80 * m0 + k0) → Q (zA τ 0 67 0) υ) : wpX11_link_142 (80 * m0 + k0) (zA τ 0 67 0) 0 τ Q := by
  have hAt := hL.1
  have hC := hL.2.1
  have h73 := hC.1
  have h1200 := hL.2.2.2
  have hend := hC.2.2.2
  obtain ⟨dC, dL, dT⟩ := hd
  obtain ⟨t0, et0⟩ : ∃ t0 : IGv, t0 = (icA L Z S C 3, 0, fun _ => 0) := ⟨_, rfl⟩
  rw [← et0] at hQ hz
  have t0n : t0.n = 0 := by rw [et0]; rfl
  have dD : ∀ i : Int, 0 ≤ i → i < 3 → 0 ≤ D i ∧ D i ≤ 200 := by
    intro i i0 i1
    have h50 := (hAt.2 i i0 (by omega)).1.2.1
    rw [(dC i i0 (by omega)).2]
    unfold dR
    split <;> omega
  -- the end
  have f302 : ∀ υ : ZS, fr [60, 62, 64] [61, 63] τ υ → IM υ → zI υ 0 60 = 1 → zI υ 0 62 = zA τ 0 67 0 → IHr υ t0 → wpX11_link_302 0 (80 * m0 + k0) (zA τ 0 67 0) υ Q := by
    intro υ0 hf0 hI0 h60 h62 hB0
    unfold wpX11_link_302
    refine lfp1_ind (fun v _ => (3 - v).toNat) (fun v υ => (0 ≤ v ∧ v ≤ 3) ∧ fr [60, 62, 64] [61, 63] τ υ ∧ IM υ ∧ zI υ 0 60 = 1 ∧ zI υ 0 62 = zA τ 0 67 0 ∧ IHr υ (ifA T V K D t0 v.toNat)) ?_ ⟨by omega, hf0, hI0, h60, h62, hB0⟩
    intro P m υ ⟨hm, hfu, hIu, u60, u62, uB⟩ ih
    show wpbX11_link_302 P (80 * m0 + k0) (zA τ 0 67 0) m υ Q
    unfold wpbX11_link_302
    have n1 := ifA_n (T := T) (V := V) (K := K) (D := D) (t := t0) m.toNat (fun i i0 i1 => dD i i0 (by omega))
    refine ⟨by omega, fun q3 => ?_, fun nq => ?_⟩
    · have em : m = 3 := by omega
      rw [em] at uB
      have hMI := hAt.2 m0 hm0.1 hm0.2
      have h56 := hMI.1.2.2
      have h44 := hMI.1.1
      have hp := hMI.2.2.2 k0 hk0.1 hk0.2
      have e : (80 * m0 + k0) / 80 = m0 := by omega
      have hc := hC.2.1 m0 _ hm0.1 hm0.2 hp.1.1 hp.1.2 h43
      have hd := hC.2.2.1 _ hc.1.1 hc.1.2
      have hs := hMI.2.1 _ hp.1.1 hp.1.2
      have u64 := uB.2.1
      rw [em] at n1
      rw [e, hfu.2 58 (by decide), hfu.2 59 (by decide), hfu.2 70 (by decide), hfu.2 71 (by decide), hfu.2 72 (by decide)]
      refine ⟨by omega, by omega, by omega, by omega, by omega, hQ _ ⟨hIu, ?_, ?_, ?_, ?_, ?_⟩ (((((hfu.up (by decide) (by decide)).ti (by decide)).ti (by decide)).ti (by decide)).ti (by decide)) u60 u62 uB rfl rfl⟩
      · show 0 ≤ zI υ 0 62 ∧ zI υ 0 62 ≤ 1200; omega
      · show 0 ≤ zI υ 0 64 ∧ zI υ 0 64 ≤ 600
        rw [u64]
        have n3 : (ifA T V K D t0 (3 : Int).toNat).n ≤ t0.n + 200 * (((3 : Int).toNat : Nat) : Int) := n1.2
        have n4 : t0.n ≤ (ifA T V K D t0 (3 : Int).toNat).n := n1.1
        omega
      · show 0 ≤ zI υ 0 60 ∧ zI υ 0 60 ≤ 1; omega
      · show 0 ≤ zA τ 0 70 (zA τ 0 71 (24 * m0 + zA τ 0 58 (80 * m0 + k0))) / 16 ∧ zA τ 0 70 (zA τ 0 71 (24 * m0 + zA τ 0 58 (80 * m0 + k0))) / 16 ≤ 100; omega
      · show 0 ≤ zA τ 0 72 (24 * m0 + zA τ 0 58 (80 * m0 + k0)) + zA τ 0 59 (80 * m0 + k0) ∧ zA τ 0 72 (24 * m0 + zA τ 0 58 (80 * m0 + k0)) + zA τ 0 59 (80 * m0 + k0) ≤ 65535; omega
    · have hMI := hAt.2 m hm.1 (by omega)
      have h50 := hMI.1.2.1
      have h43m := hAt.1.2.2.2.2 m (by omega) (by omega)
      have eD := (dC m hm.1 (by omega)).2
      have eD0 : zA τ 0 43 m = 0 → D m = 0 := fun z => by rw [eD]; unfold dR; rw [if_pos z]
      have eD1 : zA τ 0 43 m ≠ 0 → D m = zA τ 0 50 m := fun z => by rw [eD]; unfold dR; rw [if_neg z]
      have hDm := dD m hm.1 (by omega)
      unfold wpX11_link_310
      refine lfp1_ind (fun v _ => (200 - v).toNat) (fun v υ => (0 ≤ v ∧ v ≤ D m) ∧ fr [60, 62, 64] [61, 63] τ υ ∧ IM υ ∧ zI υ 0 60 = 1 ∧ zI υ 0 62 = zA τ 0 67 0 ∧ IHr υ (ifS T V K m (ifA T V K D t0 m.toNat) v.toNat)) ?_ ⟨by omega, hfu, hIu, u60, u62, uB⟩
      intro P9 k ω ⟨hk, hfw, hIw, w60, w62, wB⟩ ih9
      show wpbX11_link_310 P P9 m (80 * m0 + k0) (zA τ 0 67 0) k ω Q
      unfold wpbX11_link_310 wpX11_link_349
      have out : k = D m → P (m + 1) ω := fun ek => ih _ _ ⟨by omega, hfw, hIw, w60, w62, by
        rw [show (m + 1).toNat = m.toNat + 1 by omega]
        show IHr ω (ifS T V K ((m.toNat : Nat) : Int) (ifA T V K D t0 m.toNat) (D ((m.toNat : Nat) : Int)).toNat)
        rw [show ((m.toNat : Nat) : Int) = m by omega, ← ek]; exact wB⟩ (by show (3 - (m + 1)).toNat < (3 - m).toNat; omega)
      rw [hfw.2 50 (by decide), hfw.2 43 (by decide)]
      refine ⟨by omega, by omega, by omega, fun q => out ?_, fun ne9 => ⟨by omega, fun z => out (by have := eD0 z; omega), fun nz => ?_⟩⟩
      · by_cases z : zA τ 0 43 m = 0
        · have := eD0 z; omega
        · have := eD1 z; omega
      have eDm := eD1 nz
      obtain ⟨g1, g2, g3, g4⟩ := dT m k hm.1 (by omega) nz hk.1 (by omega)
      have n2 := ifS_n (T := T) (V := V) (K := K) (m := m) (t := ifA T V K D t0 m.toNat) k.toNat
      have zz := hz m.toNat k.toNat (by omega) (by rw [show ((m.toNat : Nat) : Int) = m by omega]; omega)
      rw [show ((m.toNat : Nat) : Int) = m by omega, show ((k.toNat : Nat) : Int) = k by omega] at zz
      have ea := hfw.2
      refine y_solve (T := T) (V := V) (K := K) (hL.up hfw.2 (hfw.1 73 (by decide))) hIw ⟨hm.1, by omega⟩ (by rw [ea 43 (by decide)]; exact nz) (by rw [ea 50 (by decide)]; omega) wB (by omega) ?_ (by rw [ea 51 (by decide)]; exact g2) (g3.k ea) (by rw [ea 51 (by decide), ea 54 (by decide)]; exact g4) (by rw [ea 51 (by decide), ← g2]; exact zz) (fun ψ hfp hIp pB => ?_)
      · rw [ea 70 (by decide), ea 71 (by decide), ea 72 (by decide), ea 52 (by decide), ea 53 (by decide)]; exact g1
      · refine ih9 _ _ ⟨by omega, hfw.tr (hfp.up (by decide) (by decide)), hIp, by rw [hfp.1 60 (by decide)]; exact w60, by rw [hfp.1 62 (by decide)]; exact w62, ?_⟩ (by show (200 - (k + 1)).toNat < (200 - k).toNat; omega)
        rw [show (k + 1).toNat = k.toNat + 1 by omega]
        show IHr ψ (ifx T V K (ifS T V K m (ifA T V K D t0 m.toNat) k.toNat) (200 * m + ((k.toNat : Nat) : Int)))
        rw [show ((k.toNat : Nat) : Int) = k by omega]; exact pB
  -- the bytes are copied
  have f181 : ∀ υ : ZS, fr [60, 62, 64] [61, 63] τ υ → IM υ → zI υ 0 60 = 1 → zI υ 0 62 = zA τ 0 67 0 → zI υ 0 64 = 0 → (∀ j : Int, 0 ≤ j → j < 1200 → zA υ 0 61 j = 0) → wpX11_link_181 0 (80 * m0 + k0) (zA τ 0 67 0) υ Q := by
    intro υ0 hf0 hI0 h60 h62 h640 hb0
    unfold wpX11_link_181
    refine lfp1_ind (fun v _ => (3 - v).toNat) (fun v υ => (0 ≤ v ∧ v ≤ 3) ∧ fr [60, 62, 64] [61, 63] τ υ ∧ IM υ ∧ zI υ 0 60 = 1 ∧ zI υ 0 62 = zA τ 0 67 0 ∧ zI υ 0 64 = 0 ∧ (∀ j : Int, 0 ≤ j → j < 1200 → zA υ 0 61 j = icA L Z S C v.toNat j)) ?_ ⟨by omega, hf0, hI0, h60, h62, h640, hb0⟩
    intro P m υ ⟨hm, hfu, hIu, u60, u62, u64, ub⟩ ih
    show wpbX11_link_181 P (80 * m0 + k0) (zA τ 0 67 0) m υ Q
    unfold wpbX11_link_181
    refine ⟨by omega, fun _ => f302 υ hfu hIu u60 u62 ⟨?_, by rw [u64, t0n], fun i i0 i1 => by rw [t0n] at i1; omega⟩, fun nq => ?_⟩
    · rw [show m = 3 by omega] at ub
      rw [et0]; exact ub
    have hMI := hAt.2 m hm.1 (by omega)
    have h44 := hMI.1.1
    have h43m := hAt.1.2.2.2.2 m (by omega) (by omega)
    have eC := (dC m hm.1 (by omega)).1
    have eC0 : zA τ 0 43 m = 0 → C m = 0 := fun z => by rw [eC]; unfold cR; rw [if_pos z]
    have eC1 : zA τ 0 43 m ≠ 0 → C m = zA τ 0 44 m := fun z => by rw [eC]; unfold cR; rw [if_neg z]
    have hCm : 0 ≤ C m ∧ C m ≤ 24 := by
      by_cases z : zA τ 0 43 m = 0
      · have := eC0 z; omega
      · have := eC1 z; omega
    unfold wpX11_link_189
    refine lfp1_ind (fun v _ => (24 - v).toNat) (fun v υ => (0 ≤ v ∧ v ≤ C m) ∧ fr [60, 62, 64] [61, 63] τ υ ∧ IM υ ∧ zI υ 0 60 = 1 ∧ zI υ 0 62 = zA τ 0 67 0 ∧ zI υ 0 64 = 0 ∧ (∀ j : Int, 0 ≤ j → j < 1200 → zA υ 0 61 j = icS L Z S m (icA L Z S C m.toNat) v.toNat j)) ?_ ⟨by omega, hfu, hIu, u60, u62, u64, ub⟩
    intro P9 s ω ⟨hs, hfw, hIw, w60, w62, w64, wb⟩ ih9
    show wpbX11_link_189 P P9 m (80 * m0 + k0) (zA τ 0 67 0) s ω Q
    unfold wpbX11_link_189 wpX11_link_294
    have out : s = C m → P (m + 1) ω := fun es => ih _ _ ⟨by omega, hfw, hIw, w60, w62, w64, fun j j0 j1 => by
      rw [wb j j0 j1, show (m + 1).toNat = m.toNat + 1 by omega]
      show _ = icS L Z S ((m.toNat : Nat) : Int) (icA L Z S C m.toNat) (C ((m.toNat : Nat) : Int)).toNat j
      rw [show ((m.toNat : Nat) : Int) = m by omega, ← es]⟩ (by show (3 - (m + 1)).toNat < (3 - m).toNat; omega)
    rw [hfw.2 44 (by decide), hfw.2 43 (by decide)]
    refine ⟨by omega, by omega, by omega, fun q => out ?_, fun ne9 => ⟨by omega, fun z => out (by have := eC0 z; omega), fun nz => ?_⟩⟩
    · by_cases z : zA τ 0 43 m = 0
      · have := eC0 z; omega
      · have := eC1 z; omega
    have eCm := eC1 nz
    have hsg := hMI.2.1 s hs.1 (by omega)
    have hc := hC.2.1 m s hm.1 (by omega) hs.1 (by omega) nz
    have hd := hC.2.2.1 _ hc.1.1 hc.1.2
    obtain ⟨g1, g2, g3⟩ := dL m s hm.1 (by omega) nz hs.1 (by omega)
    unfold wpX11_link_221
    refine lfp1_ind (fun v _ => (400 - v).toNat) (fun v υ => (0 ≤ v ∧ v ≤ zA τ 0 48 (24 * m + s)) ∧ fr [60, 62, 64] [61, 63] τ υ ∧ IM υ ∧ zI υ 0 60 = 1 ∧ zI υ 0 62 = zA τ 0 67 0 ∧ zI υ 0 64 = 0 ∧ (∀ j : Int, 0 ≤ j → j < 1200 → zA υ 0 61 j = if L (24 * m + s) ≤ j ∧ j < L (24 * m + s) + v then S (24 * m + s) (j - L (24 * m + s)) else icS L Z S m (icA L Z S C m.toNat) s.toNat j)) ?_ ⟨by omega, hfw, hIw, w60, w62, w64, fun j j0 j1 => by rw [if_neg (by omega)]; exact wb j j0 j1⟩
    intro P21 i ψ ⟨hi, hfp, hIp, p60, p62, p64, pb⟩ ih21
    show wpbX11_link_221 P P9 P21 m (80 * m0 + k0) (zA τ 0 67 0) s (24 * m + s) i ψ Q
    unfold wpbX11_link_221
    rw [hfp.2 48 (by decide), hfp.2 71 (by decide), hfp.2 47 (by decide), hfp.2 70 (by decide), hfp.2 72 (by decide), hfp.2 49 (by decide)]
    refine ⟨by omega, by omega, by omega, fun q => ih9 _ _ ⟨by omega, hfp, hIp, p60, p62, p64, fun j j0 j1 => ?_⟩ (by show (24 - (s + 1)).toNat < (24 - s).toNat; omega), fun ni => ?_⟩
    · rw [pb j j0 j1, show (s + 1).toNat = s.toNat + 1 by omega]
      show _ = icP L Z S (icS L Z S m (icA L Z S C m.toNat) s.toNat) (24 * m + ((s.toNat : Nat) : Int)) j
      rw [show ((s.toNat : Nat) : Int) = s by omega, show i = Z (24 * m + s) by omega]; rfl
    have h49 := hAt.1.2.2.2.1 (400 * m + zA τ 0 47 (24 * m + s) + i) (by omega) (by omega)
    refine ⟨by omega, by omega, by omega, ih21 _ _ ⟨by omega, hfp.ta (by decide), hIp.u61 h49, p60, p62, p64, fun j j0 j1 => ?_⟩ (by show (400 - (i + 1)).toNat < (400 - i).toNat; omega)⟩
    show zu (zA ψ 0 61) _ _ j = _
    rw [← g1]
    by_cases e : j = L (24 * m + s) + i
    · rw [e, pu_eq, if_pos (by omega), show L (24 * m + s) + i - L (24 * m + s) = i by omega, g3 i hi.1 (by omega)]
    · rw [pu_ne e, pb j j0 j1]
      by_cases q : L (24 * m + s) ≤ j ∧ j < L (24 * m + s) + i
      · rw [if_pos q, if_pos (by omega)]
      · rw [if_neg q, if_neg (by omega)]
  unfold wpX11_link_142
  refine lfp1_ind (fun v _ => (1200 - v).toNat) (fun v υ => (0 ≤ v ∧ v ≤ 1200) ∧ fr [60, 62, 64] [61, 63] τ υ ∧ IM υ ∧ (∀ j : Int, 0 ≤ j → j < v → zA υ 0 61 j = 0)) ?_ ⟨by omega, fr.rf, hIt.1, fun j j0 j1 => absurd j1 (by omega)⟩
  intro P v υ ⟨hv, hfu, hIu, hj⟩ ih
  show wpbX11_link_142 P (80 * m0 + k0) (zA τ 0 67 0) v υ Q
  unfold wpbX11_link_142
  refine ⟨by omega, fun _ => f181 _ (((hfu.ti (by decide)).ti (by decide)).ti (by decide)) hIu rfl rfl rfl (fun j j0 j1 => hj j j0 (by omega)), fun nv => ⟨by omega, ih _ _ ⟨by omega, hfu.ta (by decide), hIu.u61 (by decide), fun j j0 j1 => ?_⟩ (by show (1200 - (v + 1)).toNat < (1200 - v).toNat; omega)⟩⟩
  show zu (zA υ 0 61) v 0 j = 0
  by_cases e : j = v
  · rw [e, pu_eq]
  · rw [pu_ne e]; exact hj j j0 (by omega)
/-! L: the image's data, from the class's modules -/
theorem dm200 {m k : Int} (h : 0 ≤ k ∧ k < 200) : (200 * m + k) / 200 = m ∧ (200 * m + k) % 200 = k := by omega
theorem dm24 {m s : Int} (h : 0 ≤ s ∧ s < 24) : (24 * m + s) / 24 = m ∧ (24 * m + s) % 24 = s := by omega
theorem hu_1 {σ ρ : ZS} (hl : Alk σ ρ) (nt : NTc σ) : ∀ w m q m' q' : Int, PPc σ w m q → PPc σ w m' q' → m = m' ∧ q = q' := by
  intro w m q m' q' ⟨mb, mt, qb, qw⟩ ⟨mb', mt', qb', qw'⟩
  rcases (by omega : m = m' ∨ m < m' ∨ m' < m) with e | e | e
  · rw [← e] at qb' qw'
    obtain ⟨-, -, -, -, -, x, -⟩ := (hl.2.2 m mb.1 (by omega)).2 mt
    exact ⟨e, x q q' qb.1 qb.2 qb'.1 qb'.2 (qw.trans qw'.symm)⟩
  · exact absurd ⟨m, q, ⟨mb.1, e⟩, mt, qb, qw.trans qw'.symm⟩ (nt m' q' (by omega) qb')
  · exact absurd ⟨m', q', ⟨mb'.1, e⟩, mt', qb', qw'.trans qw.symm⟩ (nt m q (by omega) qb)
/-- a word's public -/
noncomputable def pcW (σ : ZS) (w : Int) : Int × Int := Classical.epsilon (fun x : Int × Int => PPc σ w x.1 x.2)
theorem pcW_at {σ : ZS} {w m q : Int} (hu : ∀ m q m' q' : Int, PPc σ w m q → PPc σ w m' q' → m = m' ∧ q = q') (h : PPc σ w m q) : (pcW σ w).1 = m ∧ (pcW σ w).2 = q := by
  have e : PPc σ w (pcW σ w).1 (pcW σ w).2 := Classical.epsilon_spec (p := fun x : Int × Int => PPc σ w x.1 x.2) ⟨(m, q), h⟩
  exact hu _ _ _ _ e h
def qdL (t : CbS) (p : Int) : Int := plC t (t.wh p) + t.bg p
def qdS (σ : ZS) (p i : Int) : Int := zA σ (p / 24) 6 (zA σ (p / 24) 5 (p % 24) + i)
def qfT (σ : ZS) (t : CbS) (m k : Int) : Int := qdL t (24 * m + zA σ m 9 k) + zA σ m 10 k
noncomputable def qdP (σ : ZS) (w : Int) : Int := 24 * (pcW σ w).1 + zA σ (pcW σ w).1 15 (pcW σ w).2
noncomputable def qdO (σ : ZS) (t : CbS) (w : Int) : Int := t.bg (qdP σ w) + zA σ (pcW σ w).1 16 (pcW σ w).2
noncomputable def qfV (σ : ZS) (t : CbS) (m k : Int) : Int := if zA σ m 8 k = 1 then plC t (t.wh (if 0 ≤ zA σ m 11 k then 24 * m + zA σ m 11 k else qdP σ (zA σ m 12 k))) / 16 else if zA σ m 8 k = 2 then qdO σ t (zA σ m 12 k) - (t.bg (24 * m + zA σ m 9 k) + zA σ m 10 k + 2) else if 0 ≤ zA σ m 11 k then t.bg (24 * m + zA σ m 11 k) else qdO σ t (zA σ m 12 k)
def qdT (σ : ZS) (t : CbS) (f : Int) : Int := qfT σ t (f / 200) (f % 200)
noncomputable def qdV (σ : ZS) (t : CbS) (f : Int) : Int := qfV σ t (f / 200) (f % 200)
def qdK (σ : ZS) (f : Int) : Int := zA σ (f / 200) 8 (f % 200)
theorem qdP_at {σ : ZS} {t : CbS} {w m q : Int} (hu : ∀ m q m' q' : Int, PPc σ w m q → PPc σ w m' q' → m = m' ∧ q = q') (h : PPc σ w m q) : qdP σ w = 24 * m + zA σ m 15 q ∧ qdO σ t w = t.bg (24 * m + zA σ m 15 q) + zA σ m 16 q := by
  obtain ⟨e1, e2⟩ := pcW_at hu h
  have e3 : qdP σ w = 24 * m + zA σ m 15 q := by
    unfold qdP
    rw [e1, e2]
  refine ⟨e3, ?_⟩
  unfold qdO
  rw [e3, e1, e2]
/-- what the modules' numbers keep to -/
def QM (σ : ZS) : Prop := ∀ m : Int, 0 ≤ m → m ≤ 2 → (∀ k : Int, 0 ≤ k → k < zI σ m 7 → (0 ≤ zA σ m 9 k ∧ zA σ m 9 k < zI σ m 1) ∧ (0 ≤ zA σ m 10 k ∧ zA σ m 10 k + 2 ≤ zA σ m 4 (zA σ m 9 k)) ∧ zA σ m 11 k < zI σ m 1 ∧ (zA σ m 8 k = 2 → zA σ m 11 k < 0)) ∧ (∀ q : Int, 0 ≤ q → q < zI σ m 13 → 0 ≤ zA σ m 15 q ∧ zA σ m 15 q < zI σ m 1)
theorem QM_of {σ ρ : ZS} (hA : MA ρ) (hl : Alk σ ρ) : QM σ := by
  intro m m0 m2
  refine ⟨fun k k0 k1 => ?_, fun q q0 q1 => ?_⟩
  · have t0 : zI σ m 0 ≠ 0 := fun z => by have := ((hl.2.2 m m0 m2).1 z).2.1; omega
    obtain ⟨⟨z1, z2⟩, -, ⟨x1, x2⟩, -, -, -, x3⟩ := (hl.2.2 m m0 m2).2 t0
    obtain ⟨y1, y2, y3, y4, -⟩ := x2 k k0 k1
    obtain ⟨f1, f2, f3, f4, f5⟩ := (hA.2 m m0 m2).2.2.1 k k0 (by omega)
    rw [y2] at f2 f4
    rw [y3] at f3 f4
    rw [y4] at f5
    obtain ⟨w1, -⟩ := z2 _ f2.1 (by omega)
    rw [w1] at f4
    exact ⟨by omega, ⟨f3, f4⟩, by omega, x3 k k0 k1⟩
  · have t0 : zI σ m 0 ≠ 0 := fun z => by have := ((hl.2.2 m m0 m2).1 z).2.2; omega
    obtain ⟨⟨z1, -⟩, -, -, -, x, -⟩ := (hl.2.2 m m0 m2).2 t0
    obtain ⟨k, kb, -, k1, -⟩ := x q q0 q1
    have f := ((hA.2 m m0 m2).2.2.2 k kb.1 kb.2).1
    omega
theorem sep_of {σ : ZS} (hm : M3 σ) : SepI (sC σ) (Vp (fun m => zI σ m 1) 3) (cAl (wC σ) (aC σ) (sC σ) (fun m => zI σ m 1) 3) := by
  refine SepI.a (W := wC σ) 3 (fun i i0 i1 => (hm i i0 (by omega)).2.1) (fun i j i0 i1 j0 j1 => ?_)
  have mo := hm i i0 (by omega)
  have c := mo.2.1
  have j1' : j < zI σ i 1 := j1
  obtain ⟨e1, e2⟩ := dm24 (m := i) (s := j) (by omega)
  obtain ⟨-, s2, s3, -⟩ := mo.2.2.2.2.1 j j0 j1'
  unfold sC aC
  rw [e1, e2]
  unfold al at s2
  omega
theorem vp_at {σ : ZS} {m s : Int} (hm : M3 σ) (m0 : 0 ≤ m) (m2 : m ≤ 2) (s0 : 0 ≤ s) (s1 : s < zI σ m 1) : Vp (fun m => zI σ m 1) 3 (24 * m + s) ∧ sC σ (24 * m + s) = zA σ m 4 s := by
  have c := (hm m m0 m2).2.1
  obtain ⟨e1, e2⟩ := dm24 (m := m) (s := s) (by omega)
  refine ⟨⟨by omega, by omega, ?_⟩, ?_⟩
  · show (24 * m + s) % 24 < zI σ ((24 * m + s) / 24) 1
    rw [e1, e2]; exact s1
  · unfold sC; rw [e1, e2]
theorem XD_of {σ τ : ZS} {e : Int} {t : CbS} (hm : M3 σ) (hq : QM σ) (nm : NMc σ) (hu : ∀ w m q m' q' : Int, PPc σ w m q → PPc σ w m' q' → m = m' ∧ q = q') (kk : kp [16] σ τ) (he : e ≤ 1200) (hp : PLC τ e) (ch : CH σ τ 3 0 t) (h3 : ∀ i : Int, 0 ≤ i → i < t.n → zA τ 16 3 i = upA (pE t.sz i.toNat) 16) (hn : SepI (sC σ) (Vp (fun m => zI σ m 1) 3) t) : XD τ (qdL t) (sC σ) (qdS σ) (qdT σ t) (qdV σ t) (qdK σ) (plC t (t.wh (qdP σ 230192366)) / 16) (qdO σ t 230192366) := by
  have em : ∀ m : Int, 0 ≤ m → m ≤ 2 → ob τ m = ob σ m := fun m m0 m2 => kk m (n_1 (by omega))
  have key : ∀ m s : Int, 0 ≤ m → m ≤ 2 → 0 ≤ s → s < zI σ m 1 → zA τ 16 5 (m * 24 + s) = t.wh (24 * m + s) ∧ zA τ 16 6 (m * 24 + s) = t.bg (24 * m + s) ∧ zA τ 16 3 (t.wh (24 * m + s)) = plC t (t.wh (24 * m + s)) := by
    intro m s m0 m2 s0 s1
    obtain ⟨a1, a2⟩ := ch.2 m s m0 m2 s0 s1 (Or.inl (by omega))
    have w := (hn.2.2.1 _ (vp_at hm m0 m2 s0 s1).1).1
    exact ⟨a1, a2, h3 _ w.1 w.2⟩
  have ppe : ∀ w m q : Int, PPc τ w m q → PPc σ w m q := by
    rintro w m q ⟨mb, x⟩
    have e := em m mb.1 (by omega)
    rw [ob_I e 0, ob_I e 13, ob_A e 14] at x
    exact ⟨mb, x⟩
  have pbe : ∀ w : Int, PbC σ w 3 → PbC τ w 3 := by
    rintro w ⟨m, q, mb, mt, qb, qw⟩
    have e := em m mb.1 (by omega)
    exact ⟨m, q, mb, by rw [ob_I e 0]; exact mt, by rw [ob_I e 13]; exact qb, by rw [ob_A e 14]; exact qw⟩
  have pub : ∀ w m' q : Int, PPc τ w m' q → qdP σ w = 24 * m' + zA τ m' 15 q ∧ qdO σ t w = t.bg (24 * m' + zA τ m' 15 q) + zA τ m' 16 q ∧ zA τ 16 5 (m' * 24 + zA τ m' 15 q) = t.wh (24 * m' + zA τ m' 15 q) ∧ zA τ 16 6 (m' * 24 + zA τ m' 15 q) = t.bg (24 * m' + zA τ m' 15 q) ∧ zA τ 16 3 (t.wh (24 * m' + zA τ m' 15 q)) = plC t (t.wh (24 * m' + zA τ m' 15 q)) := by
    intro w m' q pp
    have pq := ppe _ _ _ pp
    have b := pq.1
    have e' := em m' b.1 (by omega)
    rw [ob_A e' 15, ob_A e' 16]
    have r := (hq m' b.1 (by omega)).2 q pq.2.2.1.1 pq.2.2.1.2
    obtain ⟨b1, b2, b3⟩ := key m' _ b.1 (by omega) r.1 r.2
    obtain ⟨c1, c2⟩ := qdP_at (t := t) (hu w) pq
    exact ⟨c1, c2, b1, b2, b3⟩
  refine ⟨fun m s m0 m2 s0 s1 => ?_, fun m k m0 m2 k0 k1 => ?_, fun m q pp => ?_⟩
  · have e' := em m m0 m2
    rw [ob_I e' 1] at s1
    have c := (hm m m0 m2).2.1
    obtain ⟨a1, a2, a3⟩ := key m s m0 m2 s0 s1
    obtain ⟨e1, e2⟩ := dm24 (m := m) (s := s) (by omega)
    rw [a1, a2, a3, ob_A e' 4, ob_A e' 5, ob_A e' 6]
    refine ⟨rfl, ?_, fun i => ?_⟩
    · unfold sC; rw [e1, e2]
    · unfold qdS; rw [e1, e2]
  · have e' := em m m0 m2
    rw [ob_I e' 7] at k1
    have h7 := (hm m m0 m2).2.2.1
    obtain ⟨⟨f1, f2⟩, ⟨f3, f4⟩, f5, f6⟩ := (hq m m0 m2).1 k k0 k1
    obtain ⟨a1, a2, a3⟩ := key m _ m0 m2 f1 f2
    obtain ⟨e1, e2⟩ := dm200 (m := m) (k := k) (by omega)
    have eT : qdT σ t (200 * m + k) = plC t (t.wh (24 * m + zA σ m 9 k)) + t.bg (24 * m + zA σ m 9 k) + zA σ m 10 k := by
      unfold qdT; rw [e1, e2]; rfl
    have pl := hp m (zA σ m 9 k) m0 m2 f1 (by rw [ob_I e' 1]; exact f2)
    rw [ob_A e' 4, a1, a2, a3] at pl
    refine ⟨?_, by omega, ?_, ?_, fun o => ?_⟩
    · rw [ob_A e' 9, ob_A e' 10, a1, a2, a3]; exact eT
    · unfold qdK; rw [e1, e2, ob_A e' 8]
    · have eV : qdV σ t (200 * m + k) = qfV σ t m k := by unfold qdV; rw [e1, e2]
      rw [eV]
      unfold VS
      rw [ob_A e' 8, ob_A e' 9, ob_A e' 10, ob_A e' 11, ob_A e' 12, a2]
      unfold qfV
      refine ⟨fun k1' => ⟨fun n0 => ?_, fun n0 m' q pp => ?_⟩, fun k2 m' q pp => ?_, fun n1 n2 => ⟨fun n0 => ?_, fun n0 m' q pp => ?_⟩⟩
      · obtain ⟨b1, b2, b3⟩ := key m _ m0 m2 n0 f5
        rw [if_pos k1', if_pos n0, b1, b3]
      · obtain ⟨c1, c2, b1, b2, b3⟩ := pub _ m' q pp
        rw [if_pos k1', if_neg (by omega), c1, b1, b3]
      · obtain ⟨c1, c2, b1, b2, b3⟩ := pub _ m' q pp
        rw [if_neg (by omega), if_pos k2, c2, b2]
      · obtain ⟨b1, b2, b3⟩ := key m _ m0 m2 n0 f5
        rw [if_neg n1, if_neg n2, if_pos n0, b2]
      · obtain ⟨c1, c2, b1, b2, b3⟩ := pub _ m' q pp
        rw [if_neg n1, if_neg n2, if_neg (by omega), c2, b2]
    · rw [ob_A e' 11, ob_A e' 8] at o
      rw [ob_A e' 12]
      exact pbe _ (nm m k ⟨m0, m2⟩ ⟨k0, k1⟩ (o.elim id f6))
  · obtain ⟨c1, c2, b1, b2, b3⟩ := pub _ m q pp
    rw [b1, b3, b2, c1, c2]
    exact ⟨rfl, rfl⟩
/-! L: the image's data, as the reference has them -/
theorem YD_of {σ ρ β : ZS} {t t' : CbS} (hm : M3 σ) (hA : MA ρ) (hl : Alk σ ρ) (hu : ∀ w m q m' q' : Int, PPc σ w m q → PPc σ w m' q' → m = m' ∧ q = q') (en : t.n = t'.n) (es : t.sz = t'.sz) (ew : t.wh = t'.wh) (eb : t.bg = t'.bg) (aw : ∀ j : Nat, j ∈ WA → zA β 0 j = zA ρ 0 j) (rh : RH ρ β 3 0 t') (h3 : ∀ i : Int, 0 ≤ i → i < t'.n → zA β 0 70 i = upA (pE t'.sz i.toNat) 16) (hn : SepI (sC σ) (Vp (fun m => zI σ m 1) 3) t) : YDm β (qdL t) (sC σ) (qdS σ) (qdT σ t) (qdV σ t) (qdK σ) (fun m => zI σ m 1) (fun m => zI σ m 7) ∧ (∀ m0 k0 : Int, PPr ρ 1835100526 m0 k0 → zA β 0 70 (zA β 0 71 (24 * m0 + zA ρ 0 58 (80 * m0 + k0))) / 16 = plC t (t.wh (qdP σ 230192366)) / 16 ∧ zA β 0 72 (24 * m0 + zA ρ 0 58 (80 * m0 + k0)) + zA ρ 0 59 (80 * m0 + k0) = qdO σ t 230192366) := by
  have ct : ∀ m : Int, 0 ≤ m → m ≤ 2 → zA ρ 0 43 m ≠ 0 → zI σ m 0 ≠ 0 := fun m m0 m2 h => by rw [hl.2.1 m m0 m2]; exact h
  have cn : ∀ m : Int, 0 ≤ m → m ≤ 2 → zA ρ 0 43 m ≠ 0 → MLx σ ρ m := fun m m0 m2 h => (hl.2.2 m m0 m2).2 (ct m m0 m2 h)
  have key : ∀ m s : Int, 0 ≤ m → m ≤ 2 → zA ρ 0 43 m ≠ 0 → 0 ≤ s → s < zA ρ 0 44 m → zA β 0 71 (24 * m + s) = t.wh (24 * m + s) ∧ zA β 0 72 (24 * m + s) = t.bg (24 * m + s) ∧ zA β 0 70 (t.wh (24 * m + s)) = plC t (t.wh (24 * m + s)) := by
    intro m s m0 m2 h s0 s1
    have z1 := (cn m m0 m2 h).1.1
    obtain ⟨a1, a2⟩ := rh.2 m s m0 m2 s0 s1 h (Or.inl (by omega))
    have w := (hn.2.2.1 _ (vp_at hm m0 m2 s0 (by omega)).1).1
    refine ⟨by rw [a1, ew], by rw [a2, eb], ?_⟩
    rw [h3 _ w.1 (by omega)]
    unfold plC
    rw [es]
  have cd : ∀ m : Int, 0 ≤ m → m ≤ 2 → zI σ m 1 = cR β m ∧ zI σ m 7 = dR β m := by
    intro m m0 m2
    unfold cR dR
    rw [aw 43 (by decide), aw 44 (by decide), aw 50 (by decide), ← hl.2.1 m m0 m2]
    by_cases z : zI σ m 0 = 0
    · have h := (hl.2.2 m m0 m2).1 z
      rw [if_pos z, if_pos z]; exact ⟨h.1, h.2.1⟩
    · have h := (hl.2.2 m m0 m2).2 z
      rw [if_neg z, if_neg z]; exact ⟨h.1.1, h.2.2.1.1⟩
  have ppe : ∀ w m k : Int, PPr β w m k → PPr ρ w m k := by
    intro w m k h
    unfold PPr at h ⊢
    rw [aw 43 (by decide), aw 56 (by decide), aw 57 (by decide)] at h
    exact h
  have pub : ∀ w w' m' k' : Int, RW w' w → PPr ρ w' m' k' → zA β 0 70 (zA β 0 71 (24 * m' + zA ρ 0 58 (80 * m' + k'))) = plC t (t.wh (qdP σ w)) ∧ zA β 0 72 (24 * m' + zA ρ 0 58 (80 * m' + k')) + zA ρ 0 59 (80 * m' + k') = qdO σ t w := by
    intro w w' m' k' hw ⟨mb, mt, kb, kw⟩
    obtain ⟨q, qb, qw, q1, q2⟩ := (cn m' mb.1 mb.2 mt).2.2.2.1 k' kb.1 kb.2
    have px : PPc σ w m' q := ⟨by omega, ct m' mb.1 mb.2 mt, qb, (qw.iff hw).mp kw⟩
    have c58 := ((hA.2 m' mb.1 mb.2).2.2.2 k' kb.1 kb.2).1
    obtain ⟨b1, b2, b3⟩ := key m' _ mb.1 mb.2 mt c58.1 c58.2
    obtain ⟨c1, c2⟩ := qdP_at (t := t) (hu w) px
    rw [← q1] at c1 c2
    exact ⟨by rw [b1, b3, c1], by rw [b2, q2, c2]⟩
  refine ⟨⟨cd, fun m s m0 m2 h43 s0 s1 => ?_, fun m k m0 m2 h43 k0 k1 => ?_⟩, fun m0 k0 pp => ?_⟩
  · rw [aw 43 (by decide)] at h43
    rw [aw 44 (by decide)] at s1
    obtain ⟨a1, a2, a3⟩ := key m s m0 m2 h43 s0 s1
    have ml := cn m m0 m2 h43
    have c := (hA.2 m m0 m2).1.1
    have sg := (hA.2 m m0 m2).2.1 s s0 s1
    obtain ⟨y1, y2, -⟩ := ml.1.2 s s0 (by have := ml.1.1; omega)
    obtain ⟨e1, e2⟩ := dm24 (m := m) (s := s) (by omega)
    rw [a1, a2, a3, aw 48 (by decide), aw 47 (by decide), aw 49 (by decide)]
    refine ⟨rfl, ?_, fun i i0 i1 => ?_⟩
    · unfold sC; rw [e1, e2, y1]
    · unfold qdS
      rw [e1, e2, y2, show 400 * m + zA σ m 5 s + i = 400 * m + (zA σ m 5 s + i) by omega, ml.2.1 _ (by omega) (by omega)]
  · rw [aw 43 (by decide)] at h43
    rw [aw 50 (by decide)] at k1
    have ml := cn m m0 m2 h43
    obtain ⟨x1, x2⟩ := ml.2.2.1
    have c := (hA.2 m m0 m2).1.2.1
    obtain ⟨y1, y2, y3, y4, y5⟩ := x2 k k0 (by omega)
    obtain ⟨f1, f2, f3, f4, f5⟩ := (hA.2 m m0 m2).2.2.1 k k0 k1
    obtain ⟨a1, a2, a3⟩ := key m _ m0 m2 h43 f2.1 f2.2
    obtain ⟨e1, e2⟩ := dm200 (m := m) (k := k) (by omega)
    refine ⟨?_, ?_, ?_, ?_⟩
    · rw [aw 52 (by decide), aw 53 (by decide), a1, a2, a3]
      unfold qdT
      rw [e1, e2]
      show plC t (t.wh (24 * m + zA σ m 9 k)) + t.bg (24 * m + zA σ m 9 k) + zA σ m 10 k = _
      rw [← y2, ← y3]; omega
    · unfold qdK; rw [e1, e2, aw 51 (by decide), y1]
    · have eV : qdV σ t (200 * m + k) = qfV σ t m k := by unfold qdV; rw [e1, e2]
      rw [eV]
      unfold VR
      rw [aw 51 (by decide), aw 52 (by decide), aw 53 (by decide), aw 54 (by decide), aw 55 (by decide), aw 58 (by decide), aw 59 (by decide), a2, y1, y3, y4]
      unfold qfV
      refine ⟨fun k1' => ⟨fun n0 => ?_, fun n0 m' k' pp => ?_⟩, fun k2 m' k' pp => ?_, fun k0' => ⟨fun n0 => ?_, fun n0 m' k' pp => ?_⟩⟩
      · obtain ⟨b1, b2, b3⟩ := key m (zA σ m 11 k) m0 m2 h43 n0 (by omega)
        rw [if_pos k1', if_pos n0, b1, b3]
      · obtain ⟨c1, c2⟩ := pub _ _ m' k' y5 (ppe _ _ _ pp)
        rw [if_pos k1', if_neg (by omega), c1]
      · obtain ⟨c1, c2⟩ := pub _ _ m' k' y5 (ppe _ _ _ pp)
        rw [if_neg (by omega), if_pos k2, c2, y2]; omega
      · obtain ⟨b1, b2, b3⟩ := key m (zA σ m 11 k) m0 m2 h43 n0 (by omega)
        rw [if_neg (by omega), if_neg (by omega), if_pos n0, b2]
      · obtain ⟨c1, c2⟩ := pub _ _ m' k' y5 (ppe _ _ _ pp)
        rw [if_neg (by omega), if_neg (by omega), if_neg (by omega), c2]
    · rw [aw 51 (by decide), aw 54 (by decide), y1, y4]; exact ml.2.2.2.2.2.2 k k0 (by omega)
  · obtain ⟨c1, c2⟩ := pub 230192366 1835100526 m0 k0 RW_main pp
    exact ⟨by rw [c1], c2⟩
def FXa (σ : ZS) : Prop := ∀ m : Int, 0 ≤ m → m ≤ 2 → zI σ m 0 ≠ 0 → FXm σ m
theorem SpT_of {σ : ZS} {t : CbS} (hm : M3 σ) (hq : QM σ) (fx : FXa σ) (th : ∀ m : Int, 0 ≤ m → m ≤ 2 → zI σ m 0 = 0 → zI σ m 7 = 0) (hn : SepI (sC σ) (Vp (fun m => zI σ m 1) 3) t) : SpT (qdT σ t) (fun m => zI σ m 7) 3 := by
  intro f f' ⟨f0, f1, f2⟩ ⟨g0, g1, g2⟩ ne
  obtain ⟨m, em⟩ : ∃ m, m = f / 200 := ⟨_, rfl⟩
  obtain ⟨k, ek⟩ : ∃ k, k = f % 200 := ⟨_, rfl⟩
  obtain ⟨m', em'⟩ : ∃ m', m' = f' / 200 := ⟨_, rfl⟩
  obtain ⟨k', ek'⟩ : ∃ k', k' = f' % 200 := ⟨_, rfl⟩
  have f3 : k < zI σ m 7 := by rw [em, ek]; exact f2
  have g3 : k' < zI σ m' 7 := by rw [em', ek']; exact g2
  have mm : 0 ≤ m ∧ m ≤ 2 := by omega
  have mm' : 0 ≤ m' ∧ m' ≤ 2 := by omega
  obtain ⟨⟨a1, a2⟩, ⟨a3, a4⟩, -⟩ := (hq m mm.1 mm.2).1 k (by omega) f3
  obtain ⟨⟨b1, b2⟩, ⟨b3, b4⟩, -⟩ := (hq m' mm'.1 mm'.2).1 k' (by omega) g3
  obtain ⟨v, vz⟩ := vp_at hm mm.1 mm.2 a1 a2
  obtain ⟨v', vz'⟩ := vp_at hm mm'.1 mm'.2 b1 b2
  have c := (hm m mm.1 mm.2).2.1
  have c' := (hm m' mm'.1 mm'.2).2.1
  unfold qdT qfT qdL
  rw [← em, ← ek, ← em', ← ek']
  by_cases ep : 24 * m + zA σ m 9 k = 24 * m' + zA σ m' 9 k'
  · have e1 : m' = m := by omega
    rw [e1] at ep g3 ⊢
    have e2 : zA σ m 9 k' = zA σ m 9 k := by omega
    have t0 : zI σ m 0 ≠ 0 := fun z => by have := th m mm.1 mm.2 z; omega
    have fm := fx m mm.1 mm.2 t0
    have nk : k ≠ k' := by omega
    rw [e2]
    rcases Int.lt_or_gt_of_ne nk with lt | gt
    · have := (fm k (by omega) f3 a2).2 k' lt g3 e2
      exact Or.inl (by omega)
    · have := (fm k' (by omega) g3 (by omega)).2 k gt f3 e2.symm
      exact Or.inr (by omega)
  · have := hn.all v v' ep
    rw [vz, vz'] at this
    omega
theorem hz_of {σ : ZS} {t : CbS} {V : Int → Int} (hm : M3 σ) (hq : QM σ) (fx : FXa σ) (th : ∀ m : Int, 0 ≤ m → m ≤ 2 → zI σ m 0 = 0 → zI σ m 7 = 0) (hn : SepI (sC σ) (Vp (fun m => zI σ m 1) 3) t) : ∀ m k : Nat, (m : Int) < 3 → (k : Int) < zI σ m 7 → ¬ qdK σ (200 * m + k) = 0 → (ifS (qdT σ t) V (qdK σ) m (ifA (qdT σ t) V (qdK σ) (fun m => zI σ m 7) (icA (qdL t) (sC σ) (qdS σ) (fun m => zI σ m 1) 3, 0, fun _ => 0) m) k).b (qdT σ t (200 * m + k)) = 0 ∧ (ifS (qdT σ t) V (qdK σ) m (ifA (qdT σ t) V (qdK σ) (fun m => zI σ m 7) (icA (qdL t) (sC σ) (qdS σ) (fun m => zI σ m 1) 3, 0, fun _ => 0) m) k).b (qdT σ t (200 * m + k) + 1) = 0 := by
  intro m k hm3 hk nz
  have mo := hm m (by omega) (by omega)
  obtain ⟨e1, e2⟩ := dm200 (m := (m : Int)) (k := (k : Int)) (by have := mo.2.2.1; omega)
  obtain ⟨⟨a1, a2⟩, ⟨a3, a4⟩, -⟩ := (hq m (by omega) (by omega)).1 k (by omega) hk
  have t0 : zI σ m 0 ≠ 0 := fun z => by have := th m (by omega) (by omega) z; omega
  have nz' : ¬ zA σ m 8 k = 0 := by
    unfold qdK at nz
    rw [e1, e2] at nz; exact nz
  obtain ⟨z0, z1⟩ := (fx m (by omega) (by omega) t0 k (by omega) hk a2).1 nz'
  obtain ⟨v, vz⟩ := vp_at hm (show (0 : Int) ≤ m by omega) (by omega) a1 a2
  have sp := SpT_of hm hq fx th hn
  have c := mo.2.1
  obtain ⟨p1, p2⟩ := dm24 (m := (m : Int)) (s := zA σ m 9 k) (by omega)
  obtain ⟨t0', et0⟩ : ∃ t0' : IGv, t0' = (icA (qdL t) (sC σ) (qdS σ) (fun m => zI σ m 1) 3, 0, fun _ => 0) := ⟨_, rfl⟩
  have at' : ∀ e : Int, (e = 0 ∨ e = 1) → (ifS (qdT σ t) V (qdK σ) m (ifA (qdT σ t) V (qdK σ) (fun m => zI σ m 7) t0' m) k).b (qdT σ t (200 * m + k) + e) = zA σ m 6 (zA σ m 5 (zA σ m 9 k) + zA σ m 10 k + e) := by
    intro e he
    have un := if_un (T := qdT σ t) (V := V) (K := qdK σ) (D := fun m => zI σ m 7) (M := 3) (t := t0') sp (fun i i0 i1 => (hm i i0 (by omega)).2.2.1) hm3 hk he
    rw [un, et0]
    have eT : qdT σ t (200 * m + k) + e = qdL t (24 * m + zA σ m 9 k) + (zA σ m 10 k + e) := by
      unfold qdT qfT
      rw [e1, e2]; omega
    rw [eT]
    have r := icA_at (L := qdL t) (Z := sC σ) (S := qdS σ) (C := fun m => zI σ m 1) (M := 3) (fun p p' u u' ne => hn.all u u' ne) 3 (by decide) (fun i i0 i1 => (hm i i0 (by omega)).2.1) (24 * m + zA σ m 9 k) (zA σ m 10 k + e) v (by omega) (by omega)
    show icA (qdL t) (sC σ) (qdS σ) (fun m => zI σ m 1) 3 _ = _
    rw [r]
    unfold qdS
    rw [p1, p2, Int.add_assoc]
  rw [← et0]
  have h0 := at' 0 (Or.inl rfl)
  have h1 := at' 1 (Or.inr rfl)
  simp only [Int.add_zero] at h0
  exact ⟨h0.trans z0, h1.trans z1⟩
theorem icA_cg {L Z : Int → Int} {S : Int → Int → Int} {C C' : Int → Int} : ∀ m : Nat, (∀ i : Int, 0 ≤ i → i < m → C i = C' i) → icA L Z S C m = icA L Z S C' m
  | 0, _ => rfl
  | m + 1, h => by
    show icS L Z S m (icA L Z S C m) (C m).toNat = icS L Z S m (icA L Z S C' m) (C' m).toNat
    rw [icA_cg m (fun i i0 i1 => h i i0 (by omega)), h m (by omega) (by omega)]
theorem ifA_cg {T V K D D' : Int → Int} {t : IGv} : ∀ m : Nat, (∀ i : Int, 0 ≤ i → i < m → D i = D' i) → ifA T V K D t m = ifA T V K D' t m
  | 0, _ => rfl
  | m + 1, h => by
    show ifS T V K m (ifA T V K D t m) (D m).toNat = ifS T V K m (ifA T V K D' t m) (D' m).toNat
    rw [ifA_cg m (fun i i0 i1 => h i i0 (by omega)), h m (by omega) (by omega)]
theorem IHc.k {σ τ : ZS} {t : IGv} (h : IHc σ t) (e : ob τ 17 = ob σ 17) : IHc τ t := by
  unfold IHc at h ⊢
  rw [ob_I e 3, ob_A e 2, ob_A e 4]
  exact h
theorem img_cg {L Z T V K C C' D D' : Int → Int} {S : Int → Int → Int} {σ : ZS} (h1 : ∀ i : Int, 0 ≤ i → i < ((3 : Nat) : Int) → C i = C' i) (h7 : ∀ i : Int, 0 ≤ i → i < ((3 : Nat) : Int) → D i = D' i) (h : IHc σ (ifA T V K D (icA L Z S C 3, 0, fun _ => 0) 3)) : IHc σ (ifA T V K D' (icA L Z S C' 3, 0, fun _ => 0) 3) := by
  have e1 := icA_cg (L := L) (Z := Z) (S := S) 3 h1
  have e3 : ((icA L Z S C 3, 0, fun _ => 0) : IGv) = (icA L Z S C' 3, 0, fun _ => 0) := congrArg (fun b : Int → Int => ((b, 0, fun _ => 0) : IGv)) e1
  have e4 := (ifA_cg (T := T) (V := V) (K := K) (t := ((icA L Z S C 3, 0, fun _ => 0) : IGv)) 3 h7).trans (congrArg (fun t : IGv => ifA T V K D' t 3) e3)
  exact Eq.mp (congrArg (IHc σ) e4) h
/-! X: the class links, its image told -/
theorem x_link7 {σ : ZS} {N : Int} {Q : Int → ZS → Prop} {X : String → ZS → Prop} (h : CI σ N) (hq : QM σ) (hu1 : NTc σ → ∀ w m q m' q' : Int, PPc σ w m q → PPc σ w m' q' → m = m' ∧ q = q') (hQ : ∀ (x : Int) (τ : ZS), CI τ N → KC σ τ → LQ σ (cAl (wC σ) (aC σ) (sC σ) (fun m => zI σ m 1) 3) 0 x → ob τ 18 = ob σ 18 → zI τ 17 0 = 1 → zI τ 17 1 = x → IHc τ (ifA (qdT σ (cAl (wC σ) (aC σ) (sC σ) (fun m => zI σ m 1) 3)) (qdV σ (cAl (wC σ) (aC σ) (sC σ) (fun m => zI σ m 1) 3)) (qdK σ) (fun m => zI σ m 7) (icA (qdL (cAl (wC σ) (aC σ) (sC σ) (fun m => zI σ m 1) 3)) (sC σ) (qdS σ) (fun m => zI σ m 1) 3, 0, fun _ => 0) 3) → zI τ 17 5 = plC (cAl (wC σ) (aC σ) (sC σ) (fun m => zI σ m 1) 3) (CbS.wh (cAl (wC σ) (aC σ) (sC σ) (fun m => zI σ m 1) 3) (qdP σ 230192366)) / 16 → zI τ 17 6 = qdO σ (cAl (wC σ) (aC σ) (sC σ) (fun m => zI σ m 1) 3) 230192366 → Q x τ) (hX : ∀ (s : String) (τ : ZS), ((s = xISE ∧ LQ σ (cAl (wC σ) (aC σ) (sC σ) (fun m => zI σ m 1) 3) 1 0) ∨ (s = xUOE ∧ LQ σ (cAl (wC σ) (aC σ) (sC σ) (fun m => zI σ m 1) 3) 2 0) ∨ (s = xNSE ∧ LQ σ (cAl (wC σ) (aC σ) (sC σ) (fun m => zI σ m 1) 3) 3 0) ∨ (s = xIOB ∧ LQ σ (cAl (wC σ) (aC σ) (sC σ) (fun m => zI σ m 1) 3) 4 0) ∨ (s = xARI ∧ LQ σ (cAl (wC σ) (aC σ) (sC σ) (fun m => zI σ m 1) 3) 5 0)) → CI τ N → KC σ τ → (ob τ 17 = ob σ 17 ∧ ob τ 18 = ob σ 18) → X s τ) : wpX10_link σ Q X := by
  obtain ⟨r0, r1, r2, r3, r4, r5, r6⟩ := h
  have h9 : ∀ m k : Int, (0 ≤ m ∧ m ≤ 2) → (0 ≤ k ∧ k < zI σ m 7) → zA σ m 9 k < zI σ m 1 := fun m k mb kb => ((hq m mb.1 mb.2).1 k kb.1 kb.2).1.2
  have h15 : ∀ m q : Int, (0 ≤ m ∧ m ≤ 2) → (0 ≤ q ∧ q < zI σ m 13) → zA σ m 15 q < zI σ m 1 := fun m q mb qb => ((hq m mb.1 mb.2).2 q qb.1 qb.2).2
  have hn : NMc σ → ∀ m k : Int, (0 ≤ m ∧ m ≤ 2) → (0 ≤ k ∧ k < zI σ m 7) → zA σ m 8 k = 2 → PbC σ (zA σ m 12 k) 3 := fun nm m k mb kb y => nm m k mb kb (((hq m mb.1 mb.2).1 k kb.1 kb.2).2.2.2 y)
  have hu : NTc σ → ∀ w m q m' q' : Int, PPc σ w m q → PPc σ w m' q' → m * 24 + zA σ m 15 q = m' * 24 + zA σ m' 15 q' := fun nt w m q m' q' p p' => by
    obtain ⟨e1, e2⟩ := hu1 nt w m q m' q' p p'
    rw [e1, e2]
  have h : CI σ N := ⟨r0, r1, r2, r3, r4, r5, r6⟩
  have fin : ∀ (τ : ZS) (v w : Int), kp [16, 17] σ τ → LKc τ → IMc τ → (CI (zsI (zsI τ 10 2 v) 10 3 w) N ∧ KC σ (zsI (zsI τ 10 2 v) 10 3 w)) ∧ ob (zsI (zsI τ 10 2 v) 10 3 w) 18 = ob σ 18 ∧ ob (zsI (zsI τ 10 2 v) 10 3 w) 17 = ob τ 17 := by
    intro τ v w tk tl ti
    have kk : ∀ g : Int, g ≠ 10 → ob (zsI (zsI τ 10 2 v) 10 3 w) g = ob τ g := fun g hg => (ob_i hg).trans (ob_i hg)
    have c1 : ∀ g : Int, g ∉ [(16 : Int), 17] → g ≠ 10 → ob (zsI (zsI τ 10 2 v) 10 3 w) g = ob σ g := fun g h1 h2 => (kk g h2).trans (tk g h1)
    have tX : TX τ := r0.k (tk 10 (by decide))
    refine ⟨?_, c1 18 (by decide) (by decide), kk 17 (by decide)⟩
    exact ⟨⟨tX, r1.k (c1 11 (by decide) (by decide)), r2.k (c1 15 (by decide) (by decide)), fun m m0 m2 => (r3 m m0 m2).k (c1 m (m_no (by omega) (by omega)) (by omega)), tl.k (kk 16 (by decide)), ti.k (kk 17 (by decide)), r6.k (c1 18 (by decide) (by decide))⟩, ⟨tk.I (by decide) 1, tk.A (by decide) 0⟩, fun m m0 m2 => c1 m (m_no (by omega) (by omega)) (by omega)⟩
  have bad : ∀ (s : String) (v w : Int) (τ : ZS), ((s = xISE ∧ LQ σ (cAl (wC σ) (aC σ) (sC σ) (fun m => zI σ m 1) 3) 1 0) ∨ (s = xUOE ∧ LQ σ (cAl (wC σ) (aC σ) (sC σ) (fun m => zI σ m 1) 3) 2 0) ∨ (s = xNSE ∧ LQ σ (cAl (wC σ) (aC σ) (sC σ) (fun m => zI σ m 1) 3) 3 0) ∨ (s = xIOB ∧ LQ σ (cAl (wC σ) (aC σ) (sC σ) (fun m => zI σ m 1) 3) 4 0) ∨ (s = xARI ∧ LQ σ (cAl (wC σ) (aC σ) (sC σ) (fun m => zI σ m 1) 3) 5 0)) → kp [16, 17] σ τ → LKc τ → IMc τ → ob τ 17 = ob σ 17 → X s (zsI (zsI τ 10 2 v) 10 3 w) := fun s v w τ hs tk tl ti e17 => hX s _ hs (fin τ v w tk tl ti).1.1 (fin τ v w tk tl ti).1.2 ⟨(fin τ v w tk tl ti).2.2.trans e17, (fin τ v w tk tl ti).2.1⟩
  unfold wpX10_link wpX10_tell
  refine x_hasModules r3 (fun hex => ⟨by decide, fun _ => ?_, fun q => absurd q (by decide)⟩) (fun no => ⟨by decide, fun q => absurd rfl q, fun _ => hX _ σ (Or.inl ⟨rfl, Or.inl ⟨rfl, no⟩⟩) h KC.rf ⟨rfl, rfl⟩⟩)
  refine x_firstPublicTwice r3 (fun nt => ⟨by decide, fun _ => ?_, fun q => absurd (by decide) q⟩) (fun y hy nn => ⟨by omega, fun q => absurd q (by omega), fun _ => bad _ _ _ σ (Or.inr (Or.inl ⟨rfl, Or.inr ⟨hex, Or.inl ⟨rfl, nn⟩⟩⟩)) kp.rf r4 r5 rfl⟩)
  refine x_firstUnsolved r3 (fun nm => ⟨by decide, fun _ => ?_, fun q => absurd (by decide) q⟩) (fun z hz nn => ⟨by omega, fun q => absurd q (by omega), fun _ => bad _ _ _ σ (Or.inr (Or.inr (Or.inl ⟨rfl, Or.inr ⟨hex, Or.inr ⟨nt, Or.inl ⟨rfl, nn⟩⟩⟩⟩))) kp.rf r4 r5 rfl⟩)
  refine x_hasMain r3 (fun hmn => ⟨by decide, fun _ => ?_, fun q => absurd q (by decide)⟩) (fun nn => ⟨by decide, fun q => absurd rfl q, fun _ => bad _ _ _ σ (Or.inr (Or.inr (Or.inl ⟨rfl, Or.inr ⟨hex, Or.inr ⟨nt, Or.inr ⟨nm, Or.inl ⟨rfl, nn⟩⟩⟩⟩⟩))) kp.rf r4 r5 rfl⟩)
  have up4 : ∀ cd r : Int, ((cd = 4 ∧ 1200 < LE (cAl (wC σ) (aC σ) (sC σ) (fun m => zI σ m 1) 3)) ∨ (LE (cAl (wC σ) (aC σ) (sC σ) (fun m => zI σ m 1) 3) ≤ 1200 ∧ ((cd = 5 ∧ ¬ APv σ (cAl (wC σ) (aC σ) (sC σ) (fun m => zI σ m 1) 3)) ∨ (cd = 0 ∧ APv σ (cAl (wC σ) (aC σ) (sC σ) (fun m => zI σ m 1) 3) ∧ r = LE (cAl (wC σ) (aC σ) (sC σ) (fun m => zI σ m 1) 3))))) → LQ σ (cAl (wC σ) (aC σ) (sC σ) (fun m => zI σ m 1) 3) cd r := fun cd r h => Or.inr ⟨hex, Or.inr ⟨nt, Or.inr ⟨nm, Or.inr ⟨hmn, h⟩⟩⟩⟩
  refine x_combine r3 r4 (fun e τ tl tk he hp ch h3 ee => ?_)
  have eE : e = LE (cAl (wC σ) (aC σ) (sC σ) (fun m => zI σ m 1) 3) := ee
  have t5 : IMc τ := r5.k (tk 17 (by decide))
  have tM : M3 τ := r3.k tk (by decide) (by decide) (by decide)
  have em : ∀ m : Int, 0 ≤ m → m ≤ 2 → ob τ m = ob σ m := fun m m0 m2 => tk m (n_1 (by omega))
  refine ⟨by omega, fun le => ?_, fun gt => bad _ _ _ τ (Or.inr (Or.inr (Or.inr (Or.inl ⟨rfl, up4 4 0 (Or.inl ⟨rfl, by omega⟩)⟩)))) (tk.up (by decide)) tl t5 (tk 17 (by decide))⟩
  have ppe : ∀ w m q : Int, PPc τ w m q ↔ PPc σ w m q := by
    intro w m q
    unfold PPc
    constructor
    · rintro ⟨mb, x⟩
      have e := em m mb.1 (by omega)
      rw [ob_I e 0, ob_I e 13, ob_A e 14] at x
      exact ⟨mb, x⟩
    · rintro ⟨mb, x⟩
      have e := em m mb.1 (by omega)
      rw [ob_I e 0, ob_I e 13, ob_A e 14]
      exact ⟨mb, x⟩
  have pbe : ∀ w : Int, PbC σ w 3 → PbC τ w 3 := by
    rintro w ⟨m, q, mb, mt, qb, qw⟩
    have e := em m mb.1 (by omega)
    exact ⟨m, q, mb, by rw [ob_I e 0]; exact mt, by rw [ob_I e 13]; exact qb, by rw [ob_A e 14]; exact qw⟩
  have key : ∀ m k m' q : Int, (0 ≤ m ∧ m ≤ 2) → (0 ≤ k ∧ k < zI σ m 7) → PPc σ (zA σ m 12 k) m' q → zA τ 16 5 (m * 24 + zA σ m 9 k) = CbS.wh (cAl (wC σ) (aC σ) (sC σ) (fun m => zI σ m 1) 3) (24 * m + zA σ m 9 k) ∧ zA τ 16 5 (m' * 24 + zA σ m' 15 q) = CbS.wh (cAl (wC σ) (aC σ) (sC σ) (fun m => zI σ m 1) 3) (24 * m' + zA σ m' 15 q) := by
    intro m k m' q mb kb ⟨pb, pt, pk, _⟩
    have f9 := ((r3 m mb.1 mb.2).2.2.2.2.2.2.1 k kb.1 kb.2).2.1
    have f15 := ((r3 m' pb.1 (by omega)).2.2.2.2.2.2.2 q pk.1 pk.2).2.1
    exact ⟨(ch.2 m _ mb.1 mb.2 f9.1 (h9 m k mb kb) (Or.inl (by omega))).1, (ch.2 m' _ pb.1 (by omega) f15.1 (h15 m' q ⟨pb.1, by omega⟩ pk) (Or.inl (by omega))).1⟩
  have ape : APc τ ↔ APv σ (cAl (wC σ) (aC σ) (sC σ) (fun m => zI σ m 1) 3) := by
    constructor
    · intro hh m k m' q mb kb y pp
      have e := em m mb.1 mb.2
      have e' := em m' pp.1.1 (by have := pp.1.2; omega)
      have kk := key m k m' q mb kb pp
      have := hh m k m' q mb (by rw [ob_I e 7]; exact kb) (by rw [ob_A e 8]; exact y) ((ppe _ _ _).mpr (by rw [ob_A e 12]; exact pp))
      rw [ob_A e 9, ob_A e' 15] at this
      rw [← kk.1, ← kk.2]; exact this
    · intro hh m k m' q mb kb y pp
      have e := em m mb.1 mb.2
      have e' := em m' pp.1.1 (by have := pp.1.2; omega)
      rw [ob_I e 7] at kb
      rw [ob_A e 8] at y
      rw [ob_A e 12] at pp
      have pp' := (ppe _ _ _).mp pp
      have kk := key m k m' q mb kb pp'
      rw [ob_A e 9, ob_A e' 15, kk.1, kk.2]; exact hh m k m' q mb kb y pp'
  refine x_firstApart tM tl (fun m k mb kb y => ?_) (fun w m q m' q' p1 p2 => ?_) (fun ap => ⟨by decide, fun _ => ?_, fun q => absurd (by decide) q⟩) (fun f hf nap => ⟨by omega, fun q => absurd q (by omega), fun _ => bad _ _ _ τ (Or.inr (Or.inr (Or.inr (Or.inr ⟨rfl, up4 5 0 (Or.inr ⟨by omega, Or.inl ⟨rfl, fun q => nap (ape.mpr q)⟩⟩)⟩)))) (tk.up (by decide)) tl t5 (tk 17 (by decide))⟩)
  · have e := em m mb.1 mb.2
    rw [ob_I e 7] at kb
    rw [ob_A e 8] at y
    rw [ob_A e 12]; exact pbe _ (hn nm m k mb kb y)
  · have e := em m p1.1.1 (by have := p1.1.2; omega)
    have e' := em m' p2.1.1 (by have := p2.1.2; omega)
    rw [ob_A e 15, ob_A e' 15]; exact hu nt w m q m' q' ((ppe _ _ _).mp p1) ((ppe _ _ _).mp p2)
  have em1 : ∀ i : Int, 0 ≤ i → i < ((3 : Nat) : Int) → (fun m => zI τ m 1) i = (fun m => zI σ m 1) i := fun i i0 i1 => ob_I (em i i0 (by omega)) 1
  have em7 : ∀ i : Int, 0 ≤ i → i < ((3 : Nat) : Int) → (fun m => zI τ m 7) i = (fun m => zI σ m 7) i := fun i i0 i1 => ob_I (em i i0 (by omega)) 7
  have huτ : ∀ w m q m' q' : Int, PPc τ w m q → PPc τ w m' q' → m * 24 + zA τ m 15 q = m' * 24 + zA τ m' 15 q' := by
    intro w m q m' q' p1 p2
    have e := em m p1.1.1 (by have := p1.1.2; omega)
    have e' := em m' p2.1.1 (by have := p2.1.2; omega)
    rw [ob_A e 15, ob_A e' 15]; exact hu nt w m q m' q' ((ppe _ _ _).mp p1) ((ppe _ _ _).mp p2)
  refine x_lwrite tM tl t5 ⟨he.1, le⟩ hp (XD_of r3 hq nm (hu1 nt) tk le hp ch h3 (sep_of r3)) (pbe _ hmn) huτ (fun υ ui uk u0 u1 uB u5 u6 => ?_)
  have uB := img_cg em1 em7 uB
  obtain ⟨f1, f18, f17⟩ := fin υ (-1) (-1) ((tk.up (by decide)).tr (uk.up (by decide))) (tl.k (uk 16 (by decide))) ui
  exact hQ e _ f1.1 f1.2 (up4 0 e (Or.inr ⟨by omega, Or.inr ⟨rfl, ape.mp ap, eE⟩⟩)) f18 ((ob_I f17 0).trans u0) ((ob_I f17 1).trans u1) (uB.k f17) ((ob_I f17 5).trans u5) ((ob_I f17 6).trans u6)
/-! Y: the reference links, its image told -/
theorem y_link7 {σ : ZS} {Q : Int → ZS → Prop} {L Z TT V K C D : Int → Int} {S : Int → Int → Int} {pp po : Int} (hA : MA σ) (hI : IG σ) (hn : ∀ m k : Int, (0 ≤ m ∧ m ≤ 2) → zA σ 0 43 m ≠ 0 → (0 ≤ k ∧ k < zA σ 0 50 m) → zA σ 0 51 (200 * m + k) = 2 → zA σ 0 54 (200 * m + k) < 0) (hu : NTr σ → ∀ w m k m' k' : Int, PPr σ w m k → PPr σ w m' k' → 24 * m + zA σ 0 58 (80 * m + k) = 24 * m' + zA σ 0 58 (80 * m' + k')) (hd : NTr σ → NoMiss σ → ∀ β : ZS, (∀ j : Nat, j ∈ WA → zA β 0 j = zA σ 0 j) → RH σ β 3 0 (cAl (zA σ 0 45) (zA σ 0 46) (zA σ 0 48) (cR σ) 3) → (∀ i : Int, 0 ≤ i → i < CbS.n (cAl (zA σ 0 45) (zA σ 0 46) (zA σ 0 48) (cR σ) 3) → zA β 0 70 i = upA (pE (CbS.sz (cAl (zA σ 0 45) (zA σ 0 46) (zA σ 0 48) (cR σ) 3)) i.toNat) 16) → YDm β L Z S TT V K C D ∧ (∀ m0 k0 : Int, PPr σ 1835100526 m0 k0 → zA β 0 70 (zA β 0 71 (24 * m0 + zA σ 0 58 (80 * m0 + k0))) / 16 = pp ∧ zA β 0 72 (24 * m0 + zA σ 0 58 (80 * m0 + k0)) + zA σ 0 59 (80 * m0 + k0) = po)) (hz : ∀ m k : Nat, (m : Int) < 3 → (k : Int) < D m → ¬ K (200 * m + k) = 0 → (ifS TT V K m (ifA TT V K D (icA L Z S C 3, 0, fun _ => 0) m) k).b (TT (200 * m + k)) = 0 ∧ (ifS TT V K m (ifA TT V K D (icA L Z S C 3, 0, fun _ => 0) m) k).b (TT (200 * m + k) + 1) = 0) (hQ : ∀ (cd r : Int) (τ : ZS), IG τ → fr KF KA σ τ → (0 ≤ r ∧ r ≤ 1200) → zI τ 0 0 = cd → LO σ (cAl (zA σ 0 45) (zA σ 0 46) (zA σ 0 48) (cR σ) 3) cd r → (cd ≠ 0 → Kim σ τ) → (cd = 0 → zI τ 0 60 = 1 ∧ zI τ 0 62 = r ∧ IHr τ (ifA TT V K D (icA L Z S C 3, 0, fun _ => 0) 3) ∧ zI τ 0 65 = pp ∧ zI τ 0 66 = po) → Q r τ) : wpX11_link σ Q := by
  have f38 : (∃ m : Int, (0 ≤ m ∧ m ≤ 2) ∧ zA σ 0 43 m ≠ 0) → wpX11_link_38 (zsI σ 0 0 0) Q := by
    intro hex
    obtain ⟨α, hα⟩ : ∃ α, α = zsI σ 0 0 0 := ⟨_, rfl⟩
    have hfα : fr KF KA σ α := by rw [hα]; exact fr.i (by decide)
    have hAα : MA α := by rw [hα]; exact hA
    have hIα : IG α := by rw [hα]; exact hI
    rw [← hα]
    have nte : NTr α ↔ NTr σ := by rw [hα]; exact Iff.rfl
    have nme : NoMiss α ↔ NoMiss σ := by rw [hα]; exact Iff.rfl
    have pue : Pub α 1835100526 ↔ Pub σ 1835100526 := by rw [hα]; exact Iff.rfl
    have a0 : zI α 0 0 = 0 := by rw [hα]; exact zI_s
    have aA : ∀ f : Nat, zA α 0 f = zA σ 0 f := by rw [hα]; exact fun _ => rfl
    have hgα : fr [0, 3, 4, 73] CA σ α := by rw [hα]; exact fr.i (by decide)
    have tell : ∀ x y z : Int, z ≠ 0 → LO σ (cAl (zA σ 0 45) (zA σ 0 46) (zA σ 0 48) (cR σ) 3) z 0 → Q 0 (zsI (zsI (zsI α 0 3 x) 0 4 y) 0 0 z) := fun x y z nz lo => hQ z 0 _ hIα (((hfα.ti (by decide)).ti (by decide)).ti (by decide)) (by decide) zI_s lo (fun _ => Kim.of (((hgα.ti (by decide)).ti (by decide)).ti (by decide)) (by decide) (by decide)) (fun z => absurd z nz)
    unfold wpX11_link_38
    refine y_twice hAα (fun hT => ⟨by decide, fun _ => ?_, fun q => absurd (by decide) q⟩) (fun r hr nT => ⟨by omega, fun q => absurd q (by omega), fun _ => tell _ _ _ (by decide) (Or.inr ⟨hex, Or.inl ⟨rfl, fun q => nT (nte.mpr q)⟩⟩)⟩)
    have hT' := nte.mp hT
    refine y_missing hAα (fun hN => ⟨by decide, fun _ => ?_, fun q => absurd (by decide) q⟩) (fun r hr nN => ⟨by omega, fun q => absurd q (by omega), fun _ => tell _ _ _ (by decide) (Or.inr ⟨hex, Or.inr ⟨hT', Or.inl ⟨rfl, fun q => nN (nme.mpr q)⟩⟩⟩)⟩)
    have hN' := nme.mp hN
    refine s_publicOf hAα (by decide) (fun nP => ⟨by decide, fun q => absurd q (by decide), fun _ => tell _ _ _ (by decide) (Or.inr ⟨hex, Or.inr ⟨hT', Or.inr ⟨hN', Or.inl ⟨rfl, fun q => nP (pue.mpr q)⟩⟩⟩⟩)⟩) (fun m0 k0 hm0 hk0 h43 h57 => ?_)
    have hP' : Pub σ 1835100526 := pue.mp ⟨m0, k0, hm0, h43, hk0, h57⟩
    have hMI := hAα.2 m0 hm0.1 hm0.2
    refine ⟨by have := hMI.1.2.2; omega, fun _ => ?_, fun q => absurd (by omega) q⟩
    refine y_combine hAα (fun β hfβ hCβ hrh h70 hee => ?_)
    have eT : cAl (zA α 0 45) (zA α 0 46) (zA α 0 48) (cR α) 3 = (cAl (zA σ 0 45) (zA σ 0 46) (zA σ 0 48) (cR σ) 3) := by rw [hα]; rfl
    rw [eT] at hrh h70 hee
    have hrh' : RH σ β 3 0 (cAl (zA σ 0 45) (zA σ 0 46) (zA σ 0 48) (cR σ) 3) := by rw [hα] at hrh; exact hrh
    have haw : ∀ j : Nat, j ∈ WA → zA β 0 j = zA α 0 j := fun j hj => hfβ.2 j (fun q => absurd hj ((show ∀ k ∈ CA, k ∉ WA by decide) j q))
    have hfβ' : fr KF KA σ β := hfα.tr (hfβ.up (by decide) (by decide))
    have hIβ : IG β := by
      unfold IG IM
      rw [hfβ.2 61 (by decide), hfβ.2 63 (by decide), hfβ.1 62 (by decide), hfβ.1 64 (by decide), hfβ.1 60 (by decide), hfβ.1 65 (by decide), hfβ.1 66 (by decide)]
      exact hIα
    have hgβ : fr [0, 3, 4, 73] CA σ β := hgα.tr (hfβ.up (by decide) (by decide))
    have tellβ : ∀ x y z : Int, z ≠ 0 → LO σ (cAl (zA σ 0 45) (zA σ 0 46) (zA σ 0 48) (cR σ) 3) z 0 → Q 0 (zsI (zsI (zsI β 0 3 x) 0 4 y) 0 0 z) := fun x y z nz lo => hQ z 0 _ hIβ (((hfβ'.ti (by decide)).ti (by decide)).ti (by decide)) (by decide) zI_s lo (fun _ => Kim.of (((hgβ.ti (by decide)).ti (by decide)).ti (by decide)) (by decide) (by decide)) (fun z => absurd z nz)
    have eE : zA β 0 67 0 = LE (cAl (zA σ 0 45) (zA σ 0 46) (zA σ 0 48) (cR σ) 3) := hee
    have up4 : ∀ cd r : Int, ((cd = 4 ∧ 1200 < LE (cAl (zA σ 0 45) (zA σ 0 46) (zA σ 0 48) (cR σ) 3)) ∨ (LE (cAl (zA σ 0 45) (zA σ 0 46) (zA σ 0 48) (cR σ) 3) ≤ 1200 ∧ ((cd = 5 ∧ ¬ APw σ (cAl (zA σ 0 45) (zA σ 0 46) (zA σ 0 48) (cR σ) 3)) ∨ (cd = 0 ∧ APw σ (cAl (zA σ 0 45) (zA σ 0 46) (zA σ 0 48) (cR σ) 3) ∧ r = LE (cAl (zA σ 0 45) (zA σ 0 46) (zA σ 0 48) (cR σ) 3))))) → LO σ (cAl (zA σ 0 45) (zA σ 0 46) (zA σ 0 48) (cR σ) 3) cd r := fun cd r h => Or.inr ⟨hex, Or.inr ⟨hT', Or.inr ⟨hN', Or.inr ⟨hP', h⟩⟩⟩⟩
    have hend := hCβ.2.2.2
    refine ⟨by omega, fun le => ?_, fun gt => tellβ _ _ _ (by decide) (up4 4 0 (Or.inl ⟨rfl, by omega⟩))⟩
    have hLβ : LK β := ⟨hAα.up haw, hCβ, hN.up haw, le⟩
    have aw : ∀ j : Nat, j ∈ WA → zA β 0 j = zA σ 0 j := fun j hj => (haw j hj).trans (aA j)
    have ppe : ∀ w m k : Int, PPr β w m k ↔ PPr σ w m k := by
      intro w m k
      unfold PPr
      rw [aw 43 (by decide), aw 56 (by decide), aw 57 (by decide)]
    have ape : APr β ↔ APw σ (cAl (zA σ 0 45) (zA σ 0 46) (zA σ 0 48) (cR σ) 3) := by
      have key : ∀ m k m' k' : Int, (0 ≤ m ∧ m ≤ 2) → zA σ 0 43 m ≠ 0 → (0 ≤ k ∧ k < zA σ 0 50 m) → PPr σ (zA σ 0 55 (200 * m + k)) m' k' → zA β 0 71 (24 * m + zA σ 0 52 (200 * m + k)) = CbS.wh (cAl (zA σ 0 45) (zA σ 0 46) (zA σ 0 48) (cR σ) 3) (24 * m + zA σ 0 52 (200 * m + k)) ∧ zA β 0 71 (24 * m' + zA σ 0 58 (80 * m' + k')) = CbS.wh (cAl (zA σ 0 45) (zA σ 0 46) (zA σ 0 48) (cR σ) 3) (24 * m' + zA σ 0 58 (80 * m' + k')) := by
        intro m k m' k' mb mt kb ⟨pb, pt, pk, _⟩
        have fx := ((hA.2 m mb.1 mb.2).2.2.1 k kb.1 kb.2).2.1
        have px := ((hA.2 m' pb.1 pb.2).2.2.2 k' pk.1 pk.2).1
        exact ⟨(hrh.2 m _ mb.1 mb.2 fx.1 (by rw [aA]; exact fx.2) (by rw [aA]; exact mt) (Or.inl (by omega))).1, (hrh.2 m' _ pb.1 pb.2 px.1 (by rw [aA]; exact px.2) (by rw [aA]; exact pt) (Or.inl (by omega))).1⟩
      unfold APr APw
      rw [aw 43 (by decide), aw 50 (by decide), aw 51 (by decide), aw 52 (by decide), aw 55 (by decide), aw 58 (by decide)]
      constructor
      · intro h m k m' k' mb mt kb y pp
        have e := key m k m' k' mb mt kb pp
        rw [← e.1, ← e.2]; exact h m k m' k' mb mt kb y ((ppe _ _ _).mpr pp)
      · intro h m k m' k' mb mt kb y pp
        have pp' := (ppe _ _ _).mp pp
        have e := key m k m' k' mb mt kb pp'
        rw [e.1, e.2]; exact h m k m' k' mb mt kb y pp'
    refine y_far hLβ (fun m k mb mt kb y => ?_) (fun w m k m' k' p1 p2 => ?_) (fun ap => ⟨by decide, fun _ => ?_, fun q => absurd (by decide) q⟩) (fun r hr nap => ⟨by omega, fun q => absurd q (by omega), fun _ => tellβ _ _ _ (by decide) (up4 5 0 (Or.inr ⟨by omega, Or.inl ⟨rfl, fun q => nap (ape.mpr q)⟩⟩))⟩)
    · rw [aw 43 (by decide)] at mt
      rw [aw 50 (by decide)] at kb
      rw [aw 51 (by decide)] at y
      rw [aw 54 (by decide)]; exact hn m k mb mt kb y
    · rw [aw 58 (by decide)]; exact hu hT' w m k m' k' ((ppe _ _ _).mp p1) ((ppe _ _ _).mp p2)
    have px : PPr σ 1835100526 m0 k0 := by
      refine ⟨hm0, ?_, ?_, ?_⟩
      · rw [← aA 43]; exact h43
      · rw [← aA 56]; exact hk0
      · rw [← aA 57]; exact h57
    obtain ⟨yd, ym⟩ := hd hT' hN' β aw hrh' h70
    obtain ⟨z1, z2⟩ := ym m0 k0 px
    refine y_142 hLβ hIβ hm0 (by rw [haw 43 (by decide)]; exact h43) (by rw [haw 56 (by decide)]; exact hk0) yd hz (fun υ ig f u60 u62 uB u65 u66 => ?_)
    rw [aw 58 (by decide), z1] at u65
    rw [aw 58 (by decide), aw 59 (by decide), z2] at u66
    exact hQ 0 _ υ ig (hfβ'.tr (f.up (by decide) (by decide))) (by omega) ((f.1 0 (by decide)).trans ((hfβ.1 0 (by decide)).trans a0)) (up4 0 _ (Or.inr ⟨by omega, Or.inr ⟨rfl, ape.mp ap, eE⟩⟩)) (fun q => absurd rfl q) (fun _ => ⟨u60, u62, uB, u65, u66⟩)
  have h0 := hA.1.2.2.2.2 0 (by decide) (by decide)
  have h1 := hA.1.2.2.2.2 1 (by decide) (by decide)
  have h2 := hA.1.2.2.2.2 2 (by decide) (by decide)
  unfold wpX11_link
  refine ⟨by omega, fun n => f38 ⟨0, by decide, n⟩, fun z0 => ⟨by omega, fun n => f38 ⟨1, by decide, n⟩, fun z1 => ⟨by omega, fun n => f38 ⟨2, by decide, n⟩, fun z2 => hQ 1 0 _ hI ((fr.rf.ti (by decide)).ti (by decide)) (by decide) zI_s (Or.inl ⟨rfl, fun m m0 m2 => ?_⟩) (fun _ => Kim.of (fs := [0]) (as := []) ((fr.rf.ti (by decide)).ti (by decide)) (by decide) (by decide)) (fun z => absurd z (by decide))⟩⟩⟩
  rcases (by omega : m = 0 ∨ m = 1 ∨ m = 2) with h | h | h
  · rw [h]; exact z0
  · rw [h]; exact z1
  · rw [h]; exact z2
