/-! X: the reference's lexer stands at a token of the class -/
theorem pkv_inj {h g : Int → Int} {s b : Int} : ∀ n m : Nat, (∀ j : Nat, j < n → 0 < h (s + j) ∧ h (s + j) < 128) → (∀ j : Nat, j < m → 0 < g (b + j) ∧ g (b + j) < 128) → pkv h s n = pkv g b m → n = m ∧ ∀ j : Nat, j < n → h (s + j) = g (b + j)
  | 0, 0, _, _, _ => ⟨rfl, fun j hj => absurd hj (Nat.not_lt_zero j)⟩
  | 0, m + 1, _, hg, e => by
    have h1 := hg m (by omega)
    have e' : (0 : Int) = pkv g b m * 128 + g (b + m) := e
    have := pkv_bd (h := g) (s := b) m (fun j a c => by have := hg (j - b).toNat (by omega); rw [show b + ((j - b).toNat : Int) = j by omega] at this; omega)
    omega
  | n + 1, 0, hh, _, e => by
    have h1 := hh n (by omega)
    have e' : pkv h s n * 128 + h (s + n) = (0 : Int) := e
    have := pkv_bd (h := h) (s := s) n (fun j a c => by have := hh (j - s).toNat (by omega); rw [show s + ((j - s).toNat : Int) = j by omega] at this; omega)
    omega
  | n + 1, m + 1, hh, hg, e => by
    have h1 := hh n (by omega)
    have g1 := hg m (by omega)
    have e' : pkv h s n * 128 + h (s + n) = pkv g b m * 128 + g (b + m) := e
    obtain ⟨en, ej⟩ := pkv_inj n m (fun j hj => hh j (by omega)) (fun j hj => hg j (by omega)) (by omega)
    refine ⟨by omega, fun j hj => ?_⟩
    by_cases q : j = n
    · subst en; rw [q]; omega
    · exact ej j (by omega)
theorem pkv_cg {h g : Int → Int} {s b : Int} : ∀ n : Nat, (∀ j : Nat, j < n → h (s + j) = g (b + j)) → pkv h s n = pkv g b n
  | 0, _ => rfl
  | n + 1, hh => by
    show pkv h s n * 128 + h (s + n) = pkv g b n * 128 + g (b + n)
    rw [pkv_cg n (fun j hj => hh j (by omega)), hh n (by omega)]
theorem nv_cg {h g : Int → Int} {s : Int} : ∀ n : Nat, h s = g s → (∀ j : Nat, j < n → h (s + 1 + j) = g (s + 1 + j)) → nv h s n = nv g s n
  | 0, h0, _ => by show h s - 48 = g s - 48; rw [h0]
  | n + 1, h0, hh => by
    show (if nv h s n ≤ 100000 then 10 * nv h s n + h (s + 1 + n) - 48 else nv h s n) = (if nv g s n ≤ 100000 then 10 * nv g s n + g (s + 1 + n) - 48 else nv g s n)
    rw [nv_cg n h0 (fun j hj => hh j (by omega)), hh n (by omega)]
/-- the reference's number a of a word, the class's number b of it -/
def RW (a b : Int) : Prop := ∃ (f : Int → Int) (s : Int) (n : Nat), (∀ j : Nat, j < n → 0 < f (s + j) ∧ f (s + j) < 128) ∧ a = wv f s n ∧ b = pkv f s n
theorem RW.iff {a b a' b' : Int} (h : RW a b) (k : RW a' b') : a = a' ↔ b = b' := by
  obtain ⟨f, s, n, h1, h2, h3⟩ := h
  obtain ⟨g, t, m, k1, k2, k3⟩ := k
  rw [h2, h3, k2, k3]
  constructor
  · intro e
    obtain ⟨en, ej⟩ := wv_inj n m (fun j hj => ⟨(h1 j hj).1, by have := (h1 j hj).2; omega⟩) (fun j hj => ⟨(k1 j hj).1, by have := (k1 j hj).2; omega⟩) e
    subst en
    exact pkv_cg n ej
  · intro e
    obtain ⟨en, ej⟩ := pkv_inj n m h1 k1 e
    subst en
    exact wv_cg n ej
/-- the token of the reference is the token t, v of the class -/
def TM (ρ : ZS) (t v : Int) (nw : Int → Int) : Prop := (t = 0 ∧ zI ρ 0 7 = 0) ∨ (t = 1 ∧ zI ρ 0 7 = 9) ∨ (t = 2 ∧ zI ρ 0 7 = 2 ∧ zI ρ 0 10 = v) ∨ (t = 3 ∧ zI ρ 0 7 = 1 ∧ zI ρ 0 9 = -1 ∧ RW (zI ρ 0 8) (nw v)) ∨ (t = 4 ∧ zI ρ 0 7 = 1 ∧ zI ρ 0 9 = v ∧ 0 ≤ v ∧ v < 8) ∨ (t = 5 ∧ zI ρ 0 7 = 1 ∧ zI ρ 0 9 = v + 8 ∧ 0 ≤ v ∧ v < 4) ∨ (t = 6 ∧ zI ρ 0 7 = 1 ∧ zI ρ 0 9 = v + 12 ∧ 0 ≤ v ∧ v < 36) ∨ (cS t ∧ zI ρ 0 7 = t)
/-- the reference stands at token i -/
def SY (h : Int → Int) (L : Int) (E : Int → Int) (σ : ZS) (i : Int) (ρ : ZS) : Prop := zI ρ 0 2 = L ∧ (∀ j : Int, 0 ≤ j → j < L → zA ρ 0 1 j = h j) ∧ zI ρ 0 5 = E (i + 1) ∧ zI ρ 0 6 = zA σ 12 2 i ∧ TM ρ (zA σ 12 0 i) (zA σ 12 1 i) (zA σ 11 0)
theorem LXm.le {h : Int → Int} {L : Int} {nw : Int → Int} {p e t v : Int} (k : LXm h L nw p e t v) : p ≤ e ∧ (t ≠ 0 → p < e) ∧ e ≤ L := by
  rcases k with ⟨a, b, c⟩ | ⟨a, b, c, d⟩ | ⟨a, b, c, d⟩ | ⟨a, b, c, d, e', f⟩
  · exact ⟨by omega, fun q => absurd c q, by omega⟩
  · have := c.1; have := c.2.1; exact ⟨by omega, fun _ => by omega, by omega⟩
  · have := c.1; have := c.2.1; exact ⟨by omega, fun _ => by omega, by omega⟩
  · exact ⟨by omega, fun _ => by omega, by omega⟩
theorem TKS.e0 {σ : ZS} {h : Int → Int} {L n : Int} {E M : Int → Int} (k : TKS σ h L n E M) : ∀ i : Nat, (i : Int) ≤ n → 0 ≤ E i
  | 0, _ => by rw [show ((0 : Nat) : Int) = 0 from rfl, k.1]; exact Int.le_refl _
  | i + 1, hi => by
    have ih := k.e0 i (by omega)
    obtain ⟨a, b, -⟩ := k.2.2 i (by omega) (by omega)
    have := a.1
    have := b.le.1
    rw [show (((i + 1 : Nat)) : Int) = (i : Int) + 1 by omega]
    omega
theorem isRun.cg {p q : Int → Prop} {L a s : Int} (h : isRun p L a s) (e : ∀ j : Int, a ≤ j → j < L → (p j ↔ q j)) : isRun q L a s := by
  obtain ⟨h1, h2, h3, h4⟩ := h
  refine ⟨h1, h2, fun j j0 j1 => (e j j0 (by omega)).mp (h3 j j0 j1), ?_⟩
  by_cases z : s = L
  · exact Or.inl z
  · rcases h4 with h4 | h4
    · exact Or.inl h4
    · exact Or.inr (fun y => h4 ((e s h1 (by omega)).mpr y))
theorem SY_nxt {h : Int → Int} {L i : Int} {E M : Int → Int} {σ ρ τ : ZS} (hR : TKS σ h L (zI σ 12 3) E M) (i0 : 0 ≤ i) (i1 : i < zI σ 12 3) (hL : zI ρ 0 2 = L) (ht : ∀ j : Int, 0 ≤ j → j < L → zA ρ 0 1 j = h j) (hw : ∀ k : Int, 0 ≤ k → k < 48 → zA ρ 0 11 k = zwords k) (hc : ∀ j : Int, 0 ≤ j → j < L → h j ≤ 126) (h5 : zI ρ 0 5 = E i) (hn : nxt ρ τ) : SY h L E σ i τ := by
  have hE := hR.e0 i.toNat (by omega)
  rw [show ((i.toNat : Nat) : Int) = i by omega] at hE
  obtain ⟨r1, r2, -⟩ := hR.2.2 i i0 i1
  obtain ⟨hf, s, e, n1, n2, n3, n4⟩ := hn
  rw [hL, h5] at n1
  have hs : s = zA σ 12 2 i := isRun.u (n1.cg (fun j j0 j1 => by rw [ht j (by omega) j1])) r1
  have s0 : 0 ≤ s := by have := n1.1; omega
  rw [hL] at n4
  have fin : e = E (i + 1) → TM τ (zA σ 12 0 i) (zA σ 12 1 i) (zA σ 11 0) → SY h L E σ i τ := fun he hm => ⟨(hf.1 2 (by decide)).trans hL, fun j j0 j1 => by rw [hf.2 1 (by decide)]; exact ht j j0 j1, by rw [n3, he], by rw [n2, hs], hm⟩
  rw [← hs] at r2
  rcases r2 with ⟨a1, a2, a3⟩ | ⟨a1, a2, a3, a4⟩ | ⟨a1, a2, a3, a4⟩ | ⟨a1, a2, a3, a4, a5, a6⟩
  · rcases n4 with ⟨b1, b2, b3, -⟩ | ⟨b1, -⟩ | ⟨b1, -⟩ | ⟨b1, -⟩
    · exact fin (by omega) (Or.inl ⟨a3, b3⟩)
    · omega
    · omega
    · omega
  · have hl := ht s s0 a1
    rcases n4 with ⟨b1, -⟩ | ⟨b1, b2, b3, b4, b5, b6, b7⟩ | ⟨b1, b2, -⟩ | ⟨b1, b2, -⟩
    · omega
    · have ee : e = E (i + 1) := isRun.u (b3.cg (fun j j0 j1 => by rw [ht j (by omega) j1])) a3
      refine fin ee ?_
      have e1 := a3.1
      have eL := a3.2.1
      rw [← ee] at a3 a4
      rcases a4 with ⟨c1, c2⟩ | ⟨c1, c, c2, c3⟩
      · rw [if_neg (by omega)] at b4
        exact Or.inr (Or.inl ⟨c2, b4⟩)
      · rw [if_pos c1] at b4
        have hcg : wv (zA ρ 0 1) s (min (e - s) 7).toNat = wv h s (e - s).toNat := by
          rw [show (min (e - s) 7).toNat = (e - s).toNat by omega]
          exact wv_cg _ (fun j hj => ht _ (by omega) (by omega))
        rw [hcg] at b5
        have cc : zI τ 0 9 = c := by
          refine cd_u (h := zwords) ?_ c2
          rw [← b5]
          rcases b6 with ⟨y1, y2⟩ | ⟨y1, y2, y3, y4⟩
          · exact Or.inl ⟨y1, fun k k0 k1 => by rw [← hw k k0 k1]; exact y2 k k0 k1⟩
          · exact Or.inr ⟨y1, y2, by rw [← hw _ y1 y2]; exact y3, fun k k0 k1 => by rw [← hw k (by omega) k1]; exact y4 k k0 k1⟩
        rcases c3 with ⟨d1, d2, d3⟩ | ⟨d1, d2, d3, d4⟩ | ⟨d1, d2, d3, d4⟩ | ⟨d1, d2, d3, d4⟩
        · refine Or.inr (Or.inr (Or.inr (Or.inl ⟨d2, b4, cc.trans d1, h, s, (e - s).toNat, fun j hj => ?_, b5, d3⟩)))
          have := hc (s + j) (by omega) (by omega)
          by_cases q : j = 0
          · rw [q, show s + ((0 : Nat) : Int) = s by omega]
            unfold cL at a2
            omega
          · have := a3.2.2.1 (s + j) (by omega) (by omega)
            unfold cL cD at this
            omega
        · exact Or.inr (Or.inr (Or.inr (Or.inr (Or.inl ⟨d3, b4, by omega, by omega, by omega⟩))))
        · exact Or.inr (Or.inr (Or.inr (Or.inr (Or.inr (Or.inl ⟨d3, b4, by omega, by omega, by omega⟩)))))
        · exact Or.inr (Or.inr (Or.inr (Or.inr (Or.inr (Or.inr (Or.inl ⟨d3, b4, by omega, by omega, by omega⟩))))))
    · rw [hl] at b2; unfold cL at a2; unfold cD at b2; omega
    · rw [hl] at b2; exact absurd a2 b2
  · have hl := ht s s0 a1
    rcases n4 with ⟨b1, -⟩ | ⟨b1, b2, -⟩ | ⟨b1, b2, b3, b4, b5, -⟩ | ⟨b1, b2, b3, -⟩
    · omega
    · rw [hl] at b2; unfold cL at b2; unfold cD at a2; omega
    · have ee : e = E (i + 1) := isRun.u (b3.cg (fun j j0 j1 => by rw [ht j (by omega) j1])) a3
      refine fin ee ?_
      have e1 := a3.1
      have eL := a3.2.1
      rw [← ee] at a3 a4
      have hcg : nv (zA ρ 0 1) s (e - s - 1).toNat = nv h s (e - s - 1).toNat := nv_cg _ hl (fun j hj => ht _ (by omega) (by omega))
      rw [hcg] at b4
      rcases a4 with ⟨c1, c2, c3⟩ | ⟨c1, c2⟩
      · rw [if_pos (by omega)] at b5
        exact Or.inr (Or.inr (Or.inl ⟨c2, b5, by omega⟩))
      · rw [if_neg (by omega)] at b5
        exact Or.inr (Or.inl ⟨c2, b5⟩)
    · rw [hl] at b3; exact absurd a2 b3
  · have hl := ht s s0 a1
    rw [hl] at n4
    rcases n4 with ⟨b1, -⟩ | ⟨b1, b2, -⟩ | ⟨b1, b2, -⟩ | ⟨b1, b2, b3, b4, b5, -⟩
    · omega
    · exact absurd b2 a2
    · exact absurd b2 a3
    · refine fin (by omega) ?_
      rcases a6 with ⟨c1, c2⟩ | ⟨c1, c2⟩
      · rcases b5 with ⟨d1, d2⟩ | ⟨d1, d2⟩
        · exact Or.inr (Or.inr (Or.inr (Or.inr (Or.inr (Or.inr (Or.inr ⟨by rw [c2]; exact c1, by rw [c2]; exact d2⟩))))))
        · exact absurd c1 d1
      · rcases b5 with ⟨d1, d2⟩ | ⟨d1, d2⟩
        · exact absurd d1 c1
        · exact Or.inr (Or.inl ⟨c2, d2⟩)
