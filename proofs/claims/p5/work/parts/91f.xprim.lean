/-! X: the reference's small steps at a token of the class -/
theorem RDx.k {h : Int → Int} {L : Int} {E M : Int → Int} {σ τ : ZS} (k : RDx h L σ E M) (e : ob τ 11 = ob σ 11) (e' : ob τ 12 = ob σ 12) : RDx h L τ E M := by
  obtain ⟨⟨a, b, c, d⟩, k2, k3, k4, k5, k6, k7⟩ := k
  refine ⟨⟨a.k e, b.k e, c.k e, d.k e e'⟩, ?_, ?_, ?_, ?_, ?_, ?_⟩
  · unfold TKS; rw [ob_I e' 3, ob_A e' 0, ob_A e' 1, ob_A e' 2, ob_A e 0]; exact k2
  · rw [ob_I e' 3]; exact k3
  · rw [ob_I e' 3, ob_A e' 0]; exact k4
  · rw [ob_I e' 3, ob_A e' 0]; exact k5
  · rw [ob_I e' 3, ob_I e 5]; exact k6
  · unfold NDs; rw [ob_I e 5, ob_I e 6, ob_A e 0]; exact k7
/-- a text read: its tokens stand in σ -/
def CT (h : Int → Int) (L : Int) (E M : Int → Int) (σ : ZS) : Prop := RDx h L σ E M ∧ ∀ j : Int, 0 ≤ j → j < L → h j ≤ 126
theorem CT.k {h : Int → Int} {L : Int} {E M : Int → Int} {σ τ : ZS} (k : CT h L E M σ) (e : ob τ 11 = ob σ 11) (e' : ob τ 12 = ob σ 12) : CT h L E M τ := ⟨k.1.k e e', k.2⟩
theorem TKS.mM {σ : ZS} {h : Int → Int} {L n : Int} {E M : Int → Int} (k : TKS σ h L n E M) (i : Int) (i0 : 0 ≤ i) : ∀ j : Nat, i + j ≤ n → M i ≤ M (i + j)
  | 0, _ => by rw [show i + ((0 : Nat) : Int) = i by omega]; exact Int.le_refl _
  | j + 1, hj => by
    have ih := k.mM i i0 j (by omega)
    obtain ⟨-, -, -, d⟩ := k.2.2 (i + j) (by omega) (by omega)
    rw [show i + ((j + 1 : Nat) : Int) = i + j + 1 by omega]
    rcases d with ⟨-, ⟨-, -, d⟩ | ⟨-, d⟩⟩ | ⟨-, d⟩ <;> omega
theorem CT.mN {h : Int → Int} {L : Int} {E M : Int → Int} {σ : ZS} (k : CT h L E M σ) {i : Int} (i0 : 0 ≤ i) (i1 : i ≤ zI σ 12 3) : M i ≤ zI σ 11 5 := by
  have := k.1.2.1.mM i i0 (zI σ 12 3 - i).toNat (by omega)
  rw [show i + ((zI σ 12 3 - i).toNat : Int) = zI σ 12 3 by omega, k.1.2.2.2.2.2.1] at this
  exact this
theorem CT.on {h : Int → Int} {L : Int} {E M : Int → Int} {σ : ZS} (k : CT h L E M σ) {i : Int} (i0 : 0 ≤ i) (i1 : i < zI σ 12 3) (hn : zA σ 12 0 i ≠ 0) : i + 1 < zI σ 12 3 := by
  by_cases q : i = zI σ 12 3 - 1
  · rw [q] at hn; exact absurd k.1.2.2.2.1 hn
  · omega
/-- what the token says on both sides -/
theorem TM.f {ρ : ZS} {t v : Int} {nw : Int → Int} (k : TM ρ t v nw) : (t = 0 ↔ zI ρ 0 7 = 0) ∧ (t = 2 ↔ zI ρ 0 7 = 2) ∧ (t = 2 → zI ρ 0 10 = v) ∧ (t = 3 ↔ zI ρ 0 7 = 1 ∧ zI ρ 0 9 = -1) ∧ (t = 4 ↔ zI ρ 0 7 = 1 ∧ 0 ≤ zI ρ 0 9 ∧ zI ρ 0 9 < 8) ∧ (t = 4 → zI ρ 0 9 = v) ∧ (t = 5 ↔ zI ρ 0 7 = 1 ∧ 8 ≤ zI ρ 0 9 ∧ zI ρ 0 9 < 12) ∧ (t = 5 → zI ρ 0 9 = v + 8) ∧ (t = 6 ↔ zI ρ 0 7 = 1 ∧ 12 ≤ zI ρ 0 9) ∧ (t = 6 → zI ρ 0 9 = v + 12 ∧ 0 ≤ v ∧ v < 36) ∧ (zI ρ 0 7 = 1 → -1 ≤ zI ρ 0 9 ∧ zI ρ 0 9 < 48) := by
  unfold TM cS at k
  rcases k with k | k | k | ⟨a, b, c, d⟩ | k | k | k | k <;> omega
theorem TM.sg {ρ : ZS} {t v a : Int} {nw : Int → Int} (k : TM ρ t v nw) (h : cS a) : zI ρ 0 7 = a ↔ t = a := by
  unfold TM at k
  unfold cS at k h
  rcases k with k | k | k | ⟨a, b, c, d⟩ | k | k | k | k <;> omega
theorem TM.k {ρ τ : ZS} {t v : Int} {nw : Int → Int} (k : TM ρ t v nw) (e7 : zI τ 0 7 = zI ρ 0 7) (e8 : zI τ 0 8 = zI ρ 0 8) (e9 : zI τ 0 9 = zI ρ 0 9) (e10 : zI τ 0 10 = zI ρ 0 10) : TM τ t v nw := by
  unfold TM; rw [e7, e8, e9, e10]; exact k
theorem TM.w {ρ : ZS} {t v : Int} {nw : Int → Int} (k : TM ρ t v nw) (h : t = 3) : RW (zI ρ 0 8) (nw v) := by
  unfold TM cS at k
  rcases k with k | k | k | ⟨a, b, c, d⟩ | k | k | k | k
  · omega
  · omega
  · omega
  · exact d
  · omega
  · omega
  · omega
  · omega
theorem SY.fr {h : Int → Int} {L i : Int} {E : Int → Int} {σ ρ τ : ZS} {fs as : List Nat} (k : SY h L E σ i ρ) (f : fr fs as ρ τ) (h2 : 2 ∉ fs) (h5 : 5 ∉ fs) (h6 : 6 ∉ fs) (h7 : 7 ∉ fs) (h8 : 8 ∉ fs) (h9 : 9 ∉ fs) (h10 : 10 ∉ fs) (h1 : 1 ∉ as) : SY h L E σ i τ := by
  obtain ⟨a, b, c, d, e⟩ := k
  exact ⟨(f.1 2 h2).trans a, fun j j0 j1 => by rw [f.2 1 h1]; exact b j j0 j1, (f.1 5 h5).trans c, (f.1 6 h6).trans d, e.k (f.1 7 h7) (f.1 8 h8) (f.1 9 h9) (f.1 10 h10)⟩
theorem SY.k {h : Int → Int} {L i : Int} {E : Int → Int} {σ σ' ρ : ZS} (k : SY h L E σ i ρ) (e : ob σ' 11 = ob σ 11) (e' : ob σ' 12 = ob σ 12) : SY h L E σ' i ρ := by
  unfold SY; rw [ob_A e' 0, ob_A e' 1, ob_A e' 2, ob_A e 0]; exact k
/-- the uses that are noted, but whose item is still to come -/
def pU (d : YD) (pend : List Int) : UD := pend.foldl (fun u n => uA u d.cur 1 n) d.u
/-- what is noted, on both sides -/
def RB (σ ρ : ZS) (m : Int) (pend : List Int) : Prop := GG ρ ∧ (zI ρ 0 17 = m ∧ ∀ n : Int, 0 ≤ n → n < m → RW (zA ρ 0 12 n) (zA σ 11 0 n)) ∧ zI ρ 0 33 = zI σ 14 5 ∧ (zI σ 11 5 ≤ 24 → YN ρ m (yS σ) ∧ YP ρ (yS σ) ∧ YU ρ (pU (yS σ) pend))
theorem RB.k {σ σ' ρ : ZS} {m : Int} {pend : List Int} (k : RB σ ρ m pend) (e11 : ob σ' 11 = ob σ 11) (e13 : ob σ' 13 = ob σ 13) (e5 : zI σ' 14 5 = zI σ 14 5) : RB σ' ρ m pend := by
  unfold RB; rw [ob_I e11 5, ob_A e11 0, yS.k e13, e5]; exact k
/-- steps that change nothing noted -/
theorem RB.fr {σ ρ τ : ZS} {m : Int} {pend : List Int} {fs : List Nat} (k : RB σ ρ m pend) (hG : GG τ) (f : fr fs [] ρ τ) (h17 : 17 ∉ fs) (h33 : 33 ∉ fs) (h34 : 34 ∉ fs) (h32 : 32 ∉ fs) (h18 : 18 ∉ fs) (h31 : 31 ∉ fs) (h23 : 23 ∉ fs) : RB σ τ m pend := by
  obtain ⟨a, b, c, d⟩ := k
  have A : ∀ x : Nat, zA τ 0 x = zA ρ 0 x := fun x => f.2 x (by simp)
  refine ⟨hG, ⟨(f.1 17 h17).trans b.1, fun n n0 n1 => by rw [A]; exact b.2 n n0 n1⟩, (f.1 33 h33).trans c, fun q => ?_⟩
  obtain ⟨d1, d2, d3⟩ := d q
  exact ⟨d1.k (A _) (A _) (A _) (A _) (f.1 34 h34) (f.1 32 h32) (f.1 18 h18), d2.k (f.1 31 h31) (A _) (A _) (A _) (A _), d3.k (f.1 23 h23) (A _) (A _) (A _)⟩
theorem r_next {h : Int → Int} {L i m : Int} {E M : Int → Int} {σ ρ : ZS} {pend : List Int} {Q : ZS → Prop} (hC : CT h L E M σ) (i0 : 0 ≤ i) (i1 : i < zI σ 12 3) (hS : SY h L E σ i ρ) (hB : RB σ ρ m pend) (hn : zA σ 12 0 i ≠ 0) (hQ : ∀ τ : ZS, SY h L E σ (i + 1) τ → RB σ τ m pend → Fresh τ → fr [5, 6, 7, 8, 9, 10] [] ρ τ → PR ρ τ → zI ρ 0 6 + 1 ≤ zI τ 0 6 → zI ρ 0 5 ≤ zI τ 0 6 → Q τ) : wpX11_next ρ Q := by
  have hG := hB.1
  refine s_nextG hG (fun τ g pr f nx s5 _ fs => ?_)
  have hi := hC.on i0 i1 hn
  have hlt := hG.2.2.1.2.1 (fun q => hn (hS.2.2.2.2.f.1.mpr q))
  refine hQ τ (SY_nxt hC.1.2.1 (by omega) hi hS.1 hS.2.1 hG.1.2.2 hC.2 hS.2.2.1 nx) (hB.fr g f (by decide) (by decide) (by decide) (by decide) (by decide) (by decide) (by decide)) fs f pr (by omega) s5
theorem r_fault {σ ρ : ZS} {m : Int} {pend : List Int} (k : RB σ ρ m pend) : RB σ (zsI (zsI ρ 0 3 1) 0 4 (zI ρ 0 6)) m pend := k.fr (fs := [3, 4]) (GG_34 k.1) ((fr.rf.ti (by decide)).ti (by decide)) (by decide) (by decide) (by decide) (by decide) (by decide) (by decide) (by decide)
theorem r_take {h : Int → Int} {L i m a : Int} {E M : Int → Int} {σ ρ : ZS} {pend : List Int} {Q : Int → ZS → Prop} (hC : CT h L E M σ) (i0 : 0 ≤ i) (i1 : i < zI σ 12 3) (hS : SY h L E σ i ρ) (hB : RB σ ρ m pend) (ha : cS a) (h1 : zA σ 12 0 i = a → ∀ τ : ZS, SY h L E σ (i + 1) τ → RB σ τ m pend → Fresh τ → fr [5, 6, 7, 8, 9, 10] [] ρ τ → PR ρ τ → zI ρ 0 6 + 1 ≤ zI τ 0 6 → zI ρ 0 5 ≤ zI τ 0 6 → Q 1 τ) (h0 : zA σ 12 0 i ≠ a → Q 0 (zsI (zsI ρ 0 3 1) 0 4 (zI ρ 0 6))) : wpX11_take a ρ Q := by
  have hm := hS.2.2.2.2.sg ha
  have hl := hB.1.2.1.2.2.1
  unfold wpX11_take
  refine ⟨by omega, by unfold cS at ha; omega, fun q => r_next hC i0 i1 hS hB ?_ (h1 (hm.mp q)), fun q => s_fault ⟨by decide, h0 (fun z => q (hm.mpr z))⟩⟩
  have := hm.mp q
  unfold cS at ha
  omega
theorem r_isName {h : Int → Int} {L i : Int} {E : Int → Int} {σ ρ : ZS} {Q : Int → ZS → Prop} (hL : GL ρ) (hS : SY h L E σ i ρ) (h1 : zA σ 12 0 i = 3 → Q 1 ρ) (h0 : zA σ 12 0 i ≠ 3 → Q 0 ρ) : wpX11_isName ρ Q := by
  have f := hS.2.2.2.2.f
  have a := hL.2.2.1
  have b := hL.2.2.2.1
  unfold wpX11_isName wpX11_isName_19 wpX11_isName_20
  exact ⟨by omega, fun q => ⟨by decide, h0 (fun z => by omega)⟩, fun q => ⟨by omega, fun w => ⟨by decide, h0 (fun z => by omega)⟩, fun w => ⟨by decide, h1 (by omega)⟩⟩⟩
theorem r_isWord {ρ : ZS} {a b : Int} {Q : Int → ZS → Prop} (hL : GL ρ) (hab : -1000 ≤ a ∧ a ≤ 1000 ∧ -1000 ≤ b ∧ b ≤ 1000) (h1 : zI ρ 0 7 = 1 ∧ a ≤ zI ρ 0 9 ∧ zI ρ 0 9 ≤ b → Q 1 ρ) (h0 : ¬ (zI ρ 0 7 = 1 ∧ a ≤ zI ρ 0 9 ∧ zI ρ 0 9 ≤ b) → Q 0 ρ) : wpX11_isWord a b ρ Q := by
  have p := hL.2.2.1
  have q := hL.2.2.2.1
  unfold wpX11_isWord wpX11_isWord_28 wpX11_isWord_29
  exact ⟨by omega, fun x => ⟨by decide, h0 (by omega)⟩, fun x => ⟨by omega, by omega, fun y => ⟨by decide, h0 (by omega)⟩, fun y => ⟨by omega, fun z => ⟨by decide, h0 (by omega)⟩, fun z => ⟨by decide, h1 (by omega)⟩⟩⟩⟩
/-- the name that is the token, on both sides the same number -/
theorem r_name {h : Int → Int} {L i : Int} {E M : Int → Int} {σ ρ : ZS} {pend : List Int} {Q : Int → ZS → Prop} (hC : CT h L E M σ) (i0 : 0 ≤ i) (i1 : i < zI σ 12 3) (hS : SY h L E σ i ρ) (hB : RB σ ρ (M i) pend) (hF : Fresh ρ) (ht : zA σ 12 0 i = 3) (hQ : ∀ τ : ZS, SY h L E σ i τ → RB σ τ (M (i + 1)) pend → fr [17, 18] [12, 13] ρ τ → PR ρ τ → (0 ≤ zA σ 12 1 i ∧ zA σ 12 1 i < 240 ∧ zA σ 12 1 i < zI τ 0 17) → Q (zA σ 12 1 i) τ) : wpX11_name ρ Q := by
  obtain ⟨hG, ⟨b1, b2⟩, b3, b4⟩ := hB
  have t := hS.2.2.2.2.f
  have w := hS.2.2.2.2.w ht
  have hND := hC.1.2.2.2.2.2.2.1
  have hN := hC.mN i0 (by omega)
  have hN1 := hC.mN (i := i + 1) (by omega) (by omega)
  obtain ⟨-, -, m0, d⟩ := hC.1.2.1.2.2 i i0 i1
  have tk := (hC.1.1.2.2.2.2 i i0 i1)
  have vN := tk.2.2.2 ht
  have v0 := tk.2.1.1
  refine x_name hG (t.2.2.2.1.mp ht).1 hF (fun n τ n0 n1 n2 g pr f hx => ?_)
  have dd : (zA σ 12 1 i < M i ∧ M (i + 1) = M i) ∨ (zA σ 12 1 i = M i ∧ M (i + 1) = M i + 1) := by
    rcases d with ⟨-, ⟨-, d1, d2⟩ | ⟨d1, d2⟩⟩ | ⟨d1, -⟩
    · exact Or.inl ⟨d1, d2⟩
    · exact Or.inr ⟨d1, d2⟩
    · exact absurd ht d1
  have sy : SY h L E σ i τ := hS.fr f (by decide) (by decide) (by decide) (by decide) (by decide) (by decide) (by decide) (by decide)
  rcases hx with ⟨x1, x2, x3⟩ | ⟨x1, x2, x3, x4, x5, x6⟩
  · have en : n = zA σ 12 1 i := hND n _ n0 (by omega) v0 vN (((b2 n n0 (by omega)).iff w).mp x2)
    have e1 : M (i + 1) = M i := by omega
    subst x3
    rw [en] at n1 n2 ⊢
    refine hQ _ sy ?_ f pr ⟨v0, n1, n2⟩
    rw [e1]
    exact ⟨hG, ⟨b1, b2⟩, b3, b4⟩
  · have nv : ¬ zA σ 12 1 i < M i := fun q => x2 _ v0 (by omega) (((b2 _ v0 q).iff w).mpr rfl)
    have e1 : zA σ 12 1 i = M i ∧ M (i + 1) = M i + 1 := by omega
    have en : n = zA σ 12 1 i := by omega
    rw [en] at n1 n2 x4 x5 ⊢
    refine hQ _ sy ⟨g, ⟨by omega, fun k k0 k1 => ?_⟩, ?_, fun q => ?_⟩ f pr ⟨v0, n1, n2⟩
    · rw [x4]
      by_cases ek : k = zA σ 12 1 i
      · rw [ek, pu_eq]; exact w
      · rw [pu_ne ek]; exact b2 k k0 (by omega)
    · rw [f.1 33 (by decide)]; exact b3
    · obtain ⟨⟨c1, c2, c3, c4, c5, c6⟩, cp, cu⟩ := b4 q
      refine ⟨⟨fun k k0 k1 => ?_, fun k k0 => c2 k (by omega), ?_, ?_, ?_, ?_⟩, cp.k (f.1 31 (by decide)) (f.2 24 (by decide)) (f.2 25 (by decide)) (f.2 26 (by decide)) (f.2 28 (by decide)), cu.k (f.1 23 (by decide)) (f.2 19 (by decide)) (f.2 20 (by decide)) (f.2 22 (by decide))⟩
      · rw [x5, f.2 14 (by decide), f.2 15 (by decide)]
        by_cases ek : k = zA σ 12 1 i
        · have z := c2 k (by omega)
          rw [z, ek, pu_eq]
          exact ⟨rfl, fun q => by omega, fun q => by omega⟩
        · rw [pu_ne ek]; exact c1 k k0 (by omega)
      · rw [f.1 34 (by decide)]; exact c3
      · rw [f.2 35 (by decide)]; exact c4
      · rw [f.1 32 (by decide)]; exact c5
      · rw [x6 (by omega)]; exact c6
/-- a use whose item is still to come -/
theorem r_use {h : Int → Int} {L i m n p : Int} {E : Int → Int} {σ ρ : ZS} {pend : List Int} {Q : ZS → Prop} (hS : SY h L E σ i ρ) (hB : RB σ ρ m pend) (hn : 0 ≤ n ∧ n < 240 ∧ n < zI ρ 0 17) (hp : 0 ≤ p ∧ p ≤ 480) (hu : zI ρ 0 23 + 1 ≤ zI ρ 0 5 ∧ zI ρ 0 23 < 480) (hQ : ∀ τ : ZS, SY h L E σ i τ → RB σ τ m (pend ++ [n]) → fr [23] [19, 20, 21, 22] ρ τ → PR ρ τ → hasUse τ n → Q τ) : wpX11_use 1 n p ρ Q := by
  obtain ⟨hG, b1, b3, b4⟩ := hB
  refine x_use hG (by decide) hn hp hu (fun q => absurd q (by decide)) (fun τ g pr f hs hx => ?_)
  refine hQ τ (hS.fr f (by decide) (by decide) (by decide) (by decide) (by decide) (by decide) (by decide) (by decide)) ⟨g, ?_, ?_, fun q => ?_⟩ f pr (hs (Or.inl rfl))
  · rw [f.1 17 (by decide), f.2 12 (by decide)]; exact b1
  · rw [f.1 33 (by decide)]; exact b3
  · obtain ⟨c1, c2, c3⟩ := b4 q
    refine ⟨c1.k (f.2 13 (by decide)) (f.2 14 (by decide)) (f.2 15 (by decide)) (f.2 35 (by decide)) (f.1 34 (by decide)) (f.1 32 (by decide)) (f.1 18 (by decide)), c2.k (f.1 31 (by decide)) (f.2 24 (by decide)) (f.2 25 (by decide)) (f.2 26 (by decide)) (f.2 28 (by decide)), ?_⟩
    unfold pU at c3 ⊢
    rw [List.foldl_append]
    exact c3.add (by have := hG.2.1.2.2.2.2.2.2.2.1; omega) hx c1.2.2.2.2.1
