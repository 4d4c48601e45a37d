/-! P: what holds while the reference parses (safety) -/
def cntP (h : Int → Int) : Nat → Int
  | 0 => 0
  | n + 1 => cntP h n + (if h n = 0 then 1 else 0)
theorem cntP_zu {h : Int → Int} {i v : Int} : ∀ n : Nat, (n : Int) ≤ i → cntP (zu h i v) n = cntP h n
  | 0, _ => rfl
  | n + 1, hn => by
    show cntP (zu h i v) n + (if zu h i v n = 0 then 1 else 0) = cntP h n + (if h n = 0 then 1 else 0)
    rw [cntP_zu n (by omega), pu_ne (by omega)]
theorem cntP_le {h : Int → Int} : ∀ n : Nat, 0 ≤ cntP h n ∧ cntP h n ≤ n
  | 0 => ⟨Int.le_refl 0, Int.le_refl 0⟩
  | n + 1 => by
    have := cntP_le (h := h) n
    show 0 ≤ cntP h n + (if h n = 0 then 1 else 0) ∧ cntP h n + (if h n = 0 then 1 else 0) ≤ ((n + 1 : Nat) : Int)
    split <;> omega
/-- the numbers -/
def GL (σ : ZS) : Prop := (0 ≤ zI σ 0 2 ∧ zI σ 0 2 ≤ 480) ∧ (0 ≤ zI σ 0 6 ∧ zI σ 0 6 ≤ zI σ 0 5 ∧ zI σ 0 5 ≤ zI σ 0 2) ∧ (0 ≤ zI σ 0 7 ∧ zI σ 0 7 ≤ 126) ∧ (-1 ≤ zI σ 0 9 ∧ zI σ 0 9 ≤ 47) ∧ (0 ≤ zI σ 0 10 ∧ zI σ 0 10 ≤ 1000009) ∧ (0 ≤ zI σ 0 8 ∧ zI σ 0 8 ≤ 72057594037927936) ∧ (0 ≤ zI σ 0 17 ∧ 2 * zI σ 0 17 ≤ zI σ 0 5 + 1) ∧ (0 ≤ zI σ 0 23 ∧ zI σ 0 23 ≤ zI σ 0 5) ∧ (0 ≤ zI σ 0 31 ∧ zI σ 0 31 ≤ 2 * zI σ 0 6 + 8) ∧ (0 ≤ zI σ 0 34 ∧ 6 * zI σ 0 34 ≤ zI σ 0 5) ∧ (0 ≤ zI σ 0 33 ∧ zI σ 0 33 ≤ 1) ∧ (-1 ≤ zI σ 0 32 ∧ zI σ 0 32 < zI σ 0 34) ∧ (-1 ≤ zI σ 0 18 ∧ zI σ 0 18 ≤ 480) ∧ (0 ≤ zI σ 0 37 ∧ zI σ 0 37 ≤ 5) ∧ (-100 ≤ zI σ 0 38 ∧ zI σ 0 38 ≤ 1000009) ∧ (-1 ≤ zI σ 0 39 ∧ zI σ 0 39 < 240) ∧ (-1 ≤ zI σ 0 41 ∧ zI σ 0 41 ≤ 47) ∧ (-1 ≤ zI σ 0 42 ∧ zI σ 0 42 ≤ 47) ∧ 7 * cntP (zA σ 0 19) (zI σ 0 23).toNat ≤ zI σ 0 5
/-- the token -/
def Gk (σ : ZS) : Prop := (zI σ 0 7 = 0 → zI σ 0 6 = zI σ 0 2) ∧ (zI σ 0 7 ≠ 0 → zI σ 0 6 < zI σ 0 5) ∧ (zI σ 0 7 = 1 → zI σ 0 9 = 12 → zI σ 0 6 + 3 ≤ zI σ 0 5) ∧ (zI σ 0 7 = 1 → zI σ 0 9 = 13 → zI σ 0 6 + 6 ≤ zI σ 0 5) ∧ (zI σ 0 7 = 1 → zI σ 0 5 = zI σ 0 2 ∨ ¬ (cL (zA σ 0 1 (zI σ 0 5)) ∨ cD (zA σ 0 1 (zI σ 0 5))))
def Gn (σ : ZS) : Prop := (zI σ 0 7 ≠ 0 → zI σ 0 7 ≠ 1 → 2 * zI σ 0 17 ≤ zI σ 0 5)
def Gw (σ : ZS) : Prop := (zI σ 0 18 < 0 → zI σ 0 17 ≤ 24) ∧ (zI σ 0 18 < 0 → zI σ 0 33 = 1 → 0 ≤ zI σ 0 32)
def hasUse (σ : ZS) (n : Int) : Prop := ∃ u : Int, 0 ≤ u ∧ u < zI σ 0 23 ∧ zA σ 0 20 u = n ∧ (zA σ 0 19 u = 1 ∨ zA σ 0 19 u = 4)
def G1 (σ : ZS) : Prop := ∀ n : Int, 0 ≤ n → n < 240 → (0 ≤ zA σ 0 13 n ∧ zA σ 0 13 n ≤ 3) ∧ (-1 ≤ zA σ 0 14 n ∧ zA σ 0 14 n < 80) ∧ (0 ≤ zA σ 0 15 n ∧ zA σ 0 15 n ≤ 16) ∧ (0 ≤ zA σ 0 12 n ∧ zA σ 0 12 n ≤ 72057594037927936)
def G2 (σ : ZS) : Prop := ∀ u : Int, 0 ≤ u → u < 480 → (0 ≤ zA σ 0 19 u ∧ zA σ 0 19 u ≤ 4) ∧ (0 ≤ zA σ 0 20 u ∧ zA σ 0 20 u < 240) ∧ (0 ≤ zA σ 0 21 u ∧ zA σ 0 21 u ≤ 480) ∧ (-1 ≤ zA σ 0 22 u ∧ zA σ 0 22 u < 80)
def G3 (σ : ZS) : Prop := ∀ p : Int, 0 ≤ p → p < 1200 → (0 ≤ zA σ 0 24 p ∧ zA σ 0 24 p ≤ 8) ∧ (2 ≤ zA σ 0 24 p → zA σ 0 24 p ≤ 7 → 0 ≤ zA σ 0 25 p ∧ zA σ 0 25 p < 240) ∧ (zA σ 0 24 p = 8 → 0 ≤ zA σ 0 25 p ∧ zA σ 0 25 p ≤ 64) ∧ (-20000000 ≤ zA σ 0 25 p ∧ zA σ 0 25 p ≤ 20000000) ∧ (-20000000 ≤ zA σ 0 26 p ∧ zA σ 0 26 p ≤ 20000000) ∧ (0 ≤ zA σ 0 27 p ∧ zA σ 0 27 p ≤ 480) ∧ (-1 ≤ zA σ 0 28 p ∧ zA σ 0 28 p < 80) ∧ (0 ≤ zA σ 0 30 p ∧ zA σ 0 30 p ≤ 1)
def G4 (σ : ZS) : Prop := (∀ s : Int, 0 ≤ s → s < 80 → 0 ≤ zA σ 0 35 s ∧ zA σ 0 35 s < 240) ∧ (∀ s : Int, 0 ≤ s → s < zI σ 0 34 → zA σ 0 35 s < zI σ 0 17 ∧ zA σ 0 13 (zA σ 0 35 s) = 1 ∧ zA σ 0 14 (zA σ 0 35 s) = s ∧ 1 ≤ zA σ 0 15 (zA σ 0 35 s)) ∧ (∀ n : Int, 0 ≤ n → n < zI σ 0 17 → (zA σ 0 13 n = 1 → 0 ≤ zA σ 0 14 n ∧ zA σ 0 14 n < zI σ 0 34) ∧ (zA σ 0 13 n = 2 → zA σ 0 14 n = -1 ∨ zA σ 0 14 n < zI σ 0 34))
def G5 (σ : ZS) : Prop := (∀ u : Int, 0 ≤ u → u < zI σ 0 23 → zA σ 0 20 u < zI σ 0 17) ∧ (∀ p : Int, 0 ≤ p → p < zI σ 0 31 → zA σ 0 24 p = 2 ∨ zA σ 0 24 p = 3 → hasUse σ (zA σ 0 25 p))
def G6 (σ : ZS) : Prop := zI σ 0 18 < 0 → (∀ p : Int, 0 ≤ p → p < zI σ 0 31 → 0 ≤ zA σ 0 28 p ∧ zA σ 0 28 p < zI σ 0 34) ∧ (∀ n : Int, 0 ≤ n → n < zI σ 0 17 → zA σ 0 13 n = 2 → 0 ≤ zA σ 0 14 n)
def GA (σ : ZS) : Prop := G1 σ ∧ G2 σ ∧ G3 σ ∧ G4 σ ∧ G5 σ ∧ G6 σ
def GG (σ : ZS) : Prop := Tx σ ∧ GL σ ∧ Gk σ ∧ Gn σ ∧ Gw σ ∧ GA σ
abbrev PF : List Nat := [3, 4, 5, 6, 7, 8, 9, 10, 17, 18, 23, 31, 32, 33, 34, 37, 38, 39, 40, 41, 42]
abbrev PA : List Nat := [12, 13, 14, 15, 19, 20, 21, 22, 24, 25, 26, 27, 28, 30, 35]
/-- how the parse goes on -/
def PR (σ τ : ZS) : Prop := fr PF PA σ τ ∧ zI σ 0 6 ≤ zI τ 0 6 ∧ zI σ 0 5 ≤ zI τ 0 5 ∧ zI σ 0 23 ≤ zI τ 0 23 ∧ (∀ u : Int, 0 ≤ u → u < zI σ 0 23 → zA τ 0 20 u = zA σ 0 20 u ∧ zA τ 0 19 u = zA σ 0 19 u) ∧ (0 ≤ zI σ 0 18 → 0 ≤ zI τ 0 18) ∧ zI σ 0 17 ≤ zI τ 0 17 ∧ zI σ 0 33 ≤ zI τ 0 33
theorem PR.rf {σ : ZS} : PR σ σ := ⟨fr.rf, Int.le_refl _, Int.le_refl _, Int.le_refl _, fun _ _ _ => ⟨rfl, rfl⟩, fun h => h, Int.le_refl _, Int.le_refl _⟩
theorem PR.tr {σ τ υ : ZS} (h : PR σ τ) (k : PR τ υ) : PR σ υ := by
  obtain ⟨h1, h2, h3, h4, h5, h6, h7, h8⟩ := h
  obtain ⟨k1, k2, k3, k4, k5, k6, k7, k8⟩ := k
  exact ⟨h1.tr k1, by omega, by omega, by omega, fun u a b => ⟨(k5 u a (by omega)).1.trans (h5 u a b).1, (k5 u a (by omega)).2.trans (h5 u a b).2⟩, fun q => k6 (h6 q), by omega, by omega⟩
theorem PR.hasUse {σ τ : ZS} {n : Int} (h : PR σ τ) (k : hasUse σ n) : hasUse τ n := by
  obtain ⟨u, h1, h2, h3, h4⟩ := k
  obtain ⟨-, -, -, q4, q5, -⟩ := h
  exact ⟨u, h1, by omega, (q5 u h1 h2).1.trans h3, by rw [(q5 u h1 h2).2]; exact h4⟩
/-- a token not yet named or used -/
def Fresh (σ : ZS) : Prop := zI σ 0 7 = 1 → 2 * zI σ 0 17 ≤ zI σ 0 6 ∧ zI σ 0 23 ≤ zI σ 0 6
theorem fr.gA {σ τ : ZS} (h : fr [5, 6, 7, 8, 9, 10] [] σ τ) (k : GA σ) : GA τ := by
  have i17 := h.1 17 (by decide); have i18 := h.1 18 (by decide); have i23 := h.1 23 (by decide); have i31 := h.1 31 (by decide); have i34 := h.1 34 (by decide)
  have a : ∀ j : Nat, zA τ 0 j = zA σ 0 j := fun j => h.2 j (by simp)
  unfold GA G1 G2 G3 G4 G5 G6 hasUse
  simp only [a, i17, i18, i23, i31, i34]
  exact k
theorem wv_len {h : Int → Int} {s w : Int} {n : Nat} (k : Nat) (hb : ∀ j : Int, s ≤ j → j < s + n → 0 ≤ h j ∧ h j < 256) (e : w = wv h s n) (hw : (256 : Int) ^ k ≤ w) : k < n := by
  have h1 := (wv_bd n hb).2
  rcases Nat.lt_or_ge k n with h2 | h2
  · exact h2
  · have := p256 h2
    omega
theorem s_nextG {σ : ZS} {Q : ZS → Prop} (hG : GG σ) (hQ : ∀ τ : ZS, GG τ → PR σ τ → fr [5, 6, 7, 8, 9, 10] [] σ τ → nxt σ τ → zI σ 0 5 ≤ zI τ 0 6 → (zI σ 0 7 = 1 → zI τ 0 7 = 1 ∨ zI τ 0 7 = 2 → zI σ 0 5 + 1 ≤ zI τ 0 6) → Fresh τ → Q τ) : wpX11_next σ Q := by
  obtain ⟨hT, hL, hk, hn9, hw, hA⟩ := hG
  have hL0 := hL
  unfold GL at hL
  obtain ⟨l1, l2, l3, l4, l5, l6, l7, l8, l9, l10, l11, l12, l13, l14, l15, l16, l17, l18, l19⟩ := hL
  refine s_next hT (by omega) (fun τ hn => ?_)
  have hn0 := hn
  obtain ⟨hf, s, e, hrun, q6, q5, hcase⟩ := hn
  have e2 := hf.1 2 (by decide); have e17 := hf.1 17 (by decide); have e18 := hf.1 18 (by decide); have e23 := hf.1 23 (by decide); have e31 := hf.1 31 (by decide); have e32 := hf.1 32 (by decide); have e33 := hf.1 33 (by decide); have e34 := hf.1 34 (by decide)
  have e37 := hf.1 37 (by decide); have e38 := hf.1 38 (by decide); have e39 := hf.1 39 (by decide); have e41 := hf.1 41 (by decide); have e42 := hf.1 42 (by decide)
  have a1 : zA τ 0 1 = zA σ 0 1 := hf.2 1 (by decide)
  have a19 : zA τ 0 19 = zA σ 0 19 := hf.2 19 (by decide)
  have a20 : zA τ 0 20 = zA σ 0 20 := hf.2 20 (by decide)
  have hTt : Tx τ := hT.fr hf (by decide) (by decide) (by decide)
  obtain ⟨r1, r2, r3, r4⟩ := hrun
  have hch : ∀ j : Int, 0 ≤ j → j < zI σ 0 2 → 0 ≤ zA σ 0 1 j ∧ zA σ 0 1 j < 256 := fun j a b => by have := hT.2.1 j a b; omega
  have sep : zI σ 0 7 = 1 → (s < zI σ 0 2 ∧ (cL (zA σ 0 1 s) ∨ cD (zA σ 0 1 s))) → zI σ 0 5 + 1 ≤ s := by
    intro t1 t2
    rcases hk.2.2.2.2 t1 with h | h
    · omega
    · by_cases q : s = zI σ 0 5
      · rw [q] at t2; exact absurd t2.2 h
      · omega
  have key : (s ≤ e ∧ e ≤ zI σ 0 2) ∧ (0 ≤ zI τ 0 7 ∧ zI τ 0 7 ≤ 126) ∧ (zI τ 0 7 = 0 → s = zI σ 0 2) ∧ (zI τ 0 7 ≠ 0 → s < e) ∧ (-1 ≤ zI τ 0 9 ∧ zI τ 0 9 ≤ 47) ∧ (zI τ 0 7 = 1 → zI τ 0 9 = 12 → s + 3 ≤ e) ∧ (zI τ 0 7 = 1 → zI τ 0 9 = 13 → s + 6 ≤ e) ∧ (0 ≤ zI τ 0 10 ∧ zI τ 0 10 ≤ 1000009) ∧ (0 ≤ zI τ 0 8 ∧ zI τ 0 8 ≤ 72057594037927936) ∧ (zI τ 0 7 = 1 → e = zI σ 0 2 ∨ ¬ (cL (zA σ 0 1 e) ∨ cD (zA σ 0 1 e))) ∧ (zI τ 0 7 = 1 ∨ zI τ 0 7 = 2 → s < zI σ 0 2 ∧ (cL (zA σ 0 1 s) ∨ cD (zA σ 0 1 s))) := by
    rcases hcase with ⟨c1, c2, c3, c4, c5, c6⟩ | ⟨c1, c2, c3, c4, c5, c6, c7⟩ | ⟨c1, c2, c3, c4, c5, c6, c7⟩ | ⟨c1, c2, c3, c4, c5, c6, c7, c8⟩
    · exact ⟨by omega, by omega, by omega, by omega, by omega, by omega, by omega, by omega, by omega, by omega, by omega⟩
    · obtain ⟨d1, d2, d3, d4⟩ := c3
      have hb := wv_bd (h := zA σ 0 1) (s := s) (min (e - s) 7).toNat (fun j a b => hch j (by omega) (by omega))
      have h7 : (256 : Int) ^ (min (e - s) 7).toNat ≤ 256 ^ 7 := p256 (by omega)
      have h77 : (256 : Int) ^ 7 = 72057594037927936 := by decide
      have hcode : -1 ≤ zI τ 0 9 ∧ zI τ 0 9 ≤ 47 := by
        rcases c6 with c6 | c6
        · have := c6.1; omega
        · have := c6.1; have := c6.2.1; omega
      have hlen : ∀ (k : Nat) (c : Int), zI τ 0 9 = c → 0 ≤ c → c < 48 → (256 : Int) ^ k ≤ zwords c → k < (min (e - s) 7).toNat := by
        intro k c k1 k2 k3 k4
        refine wv_len (h := zA σ 0 1) (s := s) (w := zI τ 0 8) k (fun j a b => hch j (by omega) (by omega)) c5 ?_
        rcases c6 with c6 | c6
        · have := c6.1; omega
        · have := c6.2.2.1
          rw [k1, hT.2.2 c k2 k3] at this
          omega
      refine ⟨by omega, by rw [c4]; split <;> omega, fun h => by rw [c4] at h; split at h <;> omega, fun _ => by omega, hcode, fun t1 t2 => ?_, fun t1 t2 => ?_, by omega, by rw [c5]; omega, fun _ => d4, fun _ => ⟨c1, Or.inl c2⟩⟩
      · have := hlen 2 12 t2 (by decide) (by decide) (by decide)
        omega
      · have := hlen 5 13 t2 (by decide) (by decide) (by decide)
        omega
    · obtain ⟨d1, d2, d3, d4⟩ := c3
      have hb := nv_bd (h := zA σ 0 1) (s := s) (e - s - 1).toNat (fun j a b => by
        by_cases q : j = s
        · rw [q]; exact c2
        · exact d3 j (by omega) (by omega))
      rw [← c4] at hb
      have t7 : zI τ 0 7 = 2 ∨ zI τ 0 7 = 9 := by
        rw [c5]; split
        · exact Or.inl rfl
        · exact Or.inr rfl
      clear d3 d4 c5
      exact ⟨by omega, by omega, by omega, by omega, by omega, by omega, by omega, by omega, by omega, by omega, fun _ => ⟨c1, Or.inr c2⟩⟩
    · have ht := hT.2.1 s (by omega) c1
      have t7 : zI τ 0 7 ≠ 0 ∧ zI τ 0 7 ≠ 1 ∧ zI τ 0 7 ≠ 2 ∧ 0 ≤ zI τ 0 7 ∧ zI τ 0 7 ≤ 126 := by
        rcases c5 with c5 | c5
        · have k1 := c5.1; have k2 := c5.2; unfold cS at k1; omega
        · have k2 := c5.2; omega
      clear c2 c3 c5
      exact ⟨by omega, by omega, by omega, by omega, by omega, by omega, by omega, by omega, by omega, by omega, by omega⟩
  clear hcase
  obtain ⟨k1, k2, k3, k4, k5, k6, k7, k8, k9, k10, k11⟩ := key
  have hsep : zI σ 0 7 = 1 → zI τ 0 7 = 1 ∨ zI τ 0 7 = 2 → zI σ 0 5 + 1 ≤ zI τ 0 6 := fun t1 t2 => by rw [q6]; exact sep t1 (k11 t2)
  have hz : zI σ 0 7 = 0 → zI τ 0 7 ≠ 1 := by
    intro t0 t1
    have := (k11 (Or.inl t1)).1
    have := hk.1 t0
    omega
  have hc : 7 * cntP (zA τ 0 19) (zI τ 0 23).toNat ≤ zI τ 0 5 := by rw [a19, e23]; omega
  have hLt : GL τ := by
    unfold GL
    clear k3 k4 k6 k7 k10 k11 hsep hz
    exact ⟨by omega, by omega, by omega, by omega, by omega, by omega, by omega, by omega, by omega, by omega, by omega, by omega, by omega, by omega, by omega, by omega, by omega, by omega, hc⟩
  have hs5 : zI σ 0 5 ≤ zI τ 0 6 := by omega
  refine hQ τ ⟨hTt, hLt, ⟨fun t => ?_, fun t => ?_, fun t1 t2 => ?_, fun t1 t2 => ?_, fun t1 => ?_⟩, fun t0 t1 => ?_, ?_, hf.gA hA⟩ ⟨hf.up (by decide) (by decide), by omega, by omega, by omega, fun u _ _ => ⟨by rw [a20], by rw [a19]⟩, by omega, by omega, by omega⟩ hf hn0 hs5 hsep ?_
  · have := k3 t; omega
  · have := k4 t; omega
  · have := k6 t1 t2; omega
  · have := k7 t1 t2; omega
  · rw [q5, e2, a1]
    exact k10 t1
  · have := k4 t0
    by_cases u : zI σ 0 7 = 1
    · clear hw; omega
    · by_cases v : zI σ 0 7 = 0
      · have := hk.1 v; clear hw; omega
      · have := hn9 v u; clear hw; omega
  · unfold Gw at hw ⊢
    rw [e18, e17, e33, e32]; exact hw
  · intro t1
    have h2 : 2 * zI σ 0 17 ≤ s := by
      by_cases u : zI σ 0 7 = 1
      · have := hsep u (Or.inl t1); clear hw; omega
      · by_cases v : zI σ 0 7 = 0
        · exact absurd t1 (hz v)
        · have := hn9 v u; clear hw; omega
    clear hw
    omega
