/-! P: uses and pieces -/
abbrev EA : List Nat := [24, 25, 26, 27, 28, 30]
theorem s_use {σ : ZS} {a n p : Int} {Q : ZS → Prop} (hG : GG σ) (ha : 0 ≤ a ∧ a ≤ 4) (hn : 0 ≤ n ∧ n < 240 ∧ n < zI σ 0 17) (hp : 0 ≤ p ∧ p ≤ 480) (hu : zI σ 0 23 + 1 ≤ zI σ 0 5 ∧ zI σ 0 23 < 480) (hc : a = 0 → 7 * (cntP (zA σ 0 19) (zI σ 0 23).toNat + 1) ≤ zI σ 0 5) (hQ : ∀ τ : ZS, GG τ → PR σ τ → fr [23] [19, 20, 21, 22] σ τ → zI τ 0 23 = zI σ 0 23 + 1 → (a = 1 ∨ a = 4 → hasUse τ n) → Q τ) : wpX11_use a n p σ Q := by
  obtain ⟨hT, hL, hk, hn9, hw, h1, h2, h3, h4, h5, h6⟩ := hG
  obtain ⟨l1, l2, l3, l4, l5, l6, l7, l8, l9, l10, l11, l12, l13, l14, l15, l16, l17, l18, l19⟩ := hL
  unfold wpX11_use
  refine ⟨by omega, ?_⟩
  obtain ⟨τ, hτ⟩ : ∃ τ, τ = zsI (zsA (zsA (zsA (zsA σ 0 19 (zI σ 0 23) a) 0 20 (zI σ 0 23) n) 0 21 (zI σ 0 23) p) 0 22 (zI σ 0 23) (zI σ 0 32)) 0 23 (zI σ 0 23 + 1) := ⟨_, rfl⟩
  rw [← hτ]
  have hf : fr [23] [19, 20, 21, 22] σ τ := by rw [hτ]; exact ((((fr.rf.ta (by decide)).ta (by decide)).ta (by decide)).ta (by decide)).ti (by decide)
  have e23 : zI τ 0 23 = zI σ 0 23 + 1 := by rw [hτ]; rfl
  have b19 : zA τ 0 19 = zu (zA σ 0 19) (zI σ 0 23) a := by rw [hτ]; rfl
  have b20 : zA τ 0 20 = zu (zA σ 0 20) (zI σ 0 23) n := by rw [hτ]; rfl
  have b21 : zA τ 0 21 = zu (zA σ 0 21) (zI σ 0 23) p := by rw [hτ]; rfl
  have b22 : zA τ 0 22 = zu (zA σ 0 22) (zI σ 0 23) (zI σ 0 32) := by rw [hτ]; rfl
  clear hτ
  have i : ∀ f : Nat, f ≠ 23 → zI τ 0 f = zI σ 0 f := fun f hf' => hf.1 f (by simpa using hf')
  have r : ∀ f : Nat, f ∉ ([19, 20, 21, 22] : List Nat) → zA τ 0 f = zA σ 0 f := hf.2
  have hold : ∀ u : Int, 0 ≤ u → u < zI σ 0 23 → zA τ 0 20 u = zA σ 0 20 u ∧ zA τ 0 19 u = zA σ 0 19 u := fun u _ u1 => by rw [b20, b19, pu_ne (by omega), pu_ne (by omega)]; exact ⟨rfl, rfl⟩
  have hPR : PR σ τ := ⟨hf.up (by decide) (by decide), by rw [i 6 (by decide)]; omega, by rw [i 5 (by decide)]; omega, by omega, hold, by rw [i 18 (by decide)]; exact fun h => h, by rw [i 17 (by decide)]; omega, by rw [i 33 (by decide)]; omega⟩
  have hcnt : 7 * cntP (zA τ 0 19) (zI τ 0 23).toNat ≤ zI τ 0 5 := by
    rw [b19, e23, i 5 (by decide), show (zI σ 0 23 + 1).toNat = (zI σ 0 23).toNat + 1 by omega]
    show 7 * (cntP (zu (zA σ 0 19) (zI σ 0 23) a) (zI σ 0 23).toNat + (if zu (zA σ 0 19) (zI σ 0 23) a ((zI σ 0 23).toNat : Int) = 0 then 1 else 0)) ≤ _
    rw [cntP_zu _ (by omega), show (((zI σ 0 23).toNat : Nat) : Int) = zI σ 0 23 by omega, pu_eq]
    by_cases q : a = 0
    · rw [if_pos q]; exact hc q
    · rw [if_neg q]; omega
  have hGL : GL τ := by
    unfold GL
    rw [i 2 (by decide), i 6 (by decide), i 5 (by decide), i 7 (by decide), i 9 (by decide), i 10 (by decide), i 8 (by decide), i 17 (by decide), i 31 (by decide), i 34 (by decide), i 33 (by decide), i 32 (by decide), i 18 (by decide), i 37 (by decide), i 38 (by decide), i 39 (by decide), i 41 (by decide), i 42 (by decide)]
    rw [i 5 (by decide)] at hcnt
    exact ⟨l1, l2, l3, l4, l5, l6, l7, by omega, l9, l10, l11, l12, l13, l14, l15, l16, l17, l18, hcnt⟩
  have hmono : ∀ m : Int, hasUse σ m → hasUse τ m := fun m => hPR.hasUse
  refine hQ τ ⟨hT.fr hf (by decide) (by decide) (by decide), hGL, ?_, ?_, ?_, ?_, ?_, ?_, ?_, ?_, ?_⟩ hPR hf e23 (fun q => ⟨zI σ 0 23, by omega, by omega, by rw [b20, pu_eq], by rw [b19, pu_eq]; exact q⟩)
  · unfold Gk; rw [i 7 (by decide), i 6 (by decide), i 2 (by decide), i 5 (by decide), i 9 (by decide), r 1 (by decide)]; exact hk
  · unfold Gn; rw [i 7 (by decide), i 17 (by decide), i 5 (by decide)]; exact hn9
  · unfold Gw; rw [i 18 (by decide), i 17 (by decide), i 33 (by decide), i 32 (by decide)]; exact hw
  · unfold G1; rw [r 13 (by decide), r 14 (by decide), r 15 (by decide), r 12 (by decide)]; exact h1
  · intro u u0 u1
    obtain ⟨q1, q2, q3, q4⟩ := h2 u u0 u1
    rw [b19, b20, b21, b22]
    by_cases e : u = zI σ 0 23
    · rw [e, pu_eq, pu_eq, pu_eq, pu_eq]
      exact ⟨ha, by omega, hp, by omega⟩
    · rw [pu_ne e, pu_ne e, pu_ne e, pu_ne e]
      exact ⟨q1, q2, q3, q4⟩
  · unfold G3; rw [r 24 (by decide), r 25 (by decide), r 26 (by decide), r 27 (by decide), r 28 (by decide), r 30 (by decide)]; exact h3
  · unfold G4; rw [r 35 (by decide), r 13 (by decide), r 14 (by decide), r 15 (by decide), i 34 (by decide), i 17 (by decide)]; exact h4
  · refine ⟨fun u u0 u1 => ?_, fun q q0 q1 q2 => ?_⟩
    · rw [b20, i 17 (by decide)]
      by_cases e : u = zI σ 0 23
      · rw [e, pu_eq]; omega
      · rw [pu_ne e]; exact h5.1 u u0 (by omega)
    · rw [r 24 (by decide)] at q2
      rw [i 31 (by decide)] at q1
      rw [r 25 (by decide)]
      exact hmono _ (h5.2 q q0 q1 q2)
  · unfold G6; rw [i 18 (by decide), i 31 (by decide), i 34 (by decide), i 17 (by decide), r 28 (by decide), r 13 (by decide), r 14 (by decide)]; exact h6
/-- k pieces at most were added -/
def Em (k : Int) (σ τ : ZS) : Prop := GG τ ∧ PR σ τ ∧ fr [31] EA σ τ ∧ zI σ 0 31 ≤ zI τ 0 31 ∧ zI τ 0 31 ≤ zI σ 0 31 + k
theorem Em.tr {a b : Int} {σ τ υ : ZS} (h : Em a σ τ) (k : Em b τ υ) : Em (a + b) σ υ := by
  obtain ⟨h1, h2, h3, h4, h5⟩ := h
  obtain ⟨k1, k2, k3, k4, k5⟩ := k
  exact ⟨k1, h2.tr k2, h3.tr k3, by omega, by omega⟩
theorem s_piece {σ : ZS} {k a b p : Int} {Q : ZS → Prop} (hG : GG σ) (hs : zI σ 0 33 = 1) (hp9 : zI σ 0 31 + 1 ≤ 2 * zI σ 0 6 + 8) (hk9 : 0 ≤ k ∧ k ≤ 8) (hn : 2 ≤ k → k ≤ 7 → 0 ≤ a ∧ a < 240) (h8 : k = 8 → 0 ≤ a ∧ a ≤ 64) (ha : -20000000 ≤ a ∧ a ≤ 20000000) (hb : -20000000 ≤ b ∧ b ≤ 20000000) (hp : 0 ≤ p ∧ p ≤ 480) (hu : k = 2 ∨ k = 3 → hasUse σ a) (hQ : ∀ τ : ZS, Em 1 σ τ → Q τ) : wpX11_piece k a b p σ Q := by
  obtain ⟨hT, hL, hk, hn9, hw, h1, h2, h3, h4, h5, h6⟩ := hG
  obtain ⟨l1, l2, l3, l4, l5, l6, l7, l8, l9, l10, l11, l12, l13, l14, l15, l16, l17, l18, l19⟩ := hL
  unfold wpX11_piece
  refine ⟨by omega, ?_⟩
  obtain ⟨τ, hτ⟩ : ∃ τ, τ = zsI (zsA (zsA (zsA (zsA (zsA (zsA σ 0 24 (zI σ 0 31) k) 0 25 (zI σ 0 31) a) 0 26 (zI σ 0 31) b) 0 27 (zI σ 0 31) p) 0 28 (zI σ 0 31) (zI σ 0 32)) 0 30 (zI σ 0 31) 0) 0 31 (zI σ 0 31 + 1) := ⟨_, rfl⟩
  rw [← hτ]
  have hf : fr [31] EA σ τ := by rw [hτ]; exact ((((((fr.rf.ta (by decide)).ta (by decide)).ta (by decide)).ta (by decide)).ta (by decide)).ta (by decide)).ti (by decide)
  have e31 : zI τ 0 31 = zI σ 0 31 + 1 := by rw [hτ]; rfl
  have b24 : zA τ 0 24 = zu (zA σ 0 24) (zI σ 0 31) k := by rw [hτ]; rfl
  have b25 : zA τ 0 25 = zu (zA σ 0 25) (zI σ 0 31) a := by rw [hτ]; rfl
  have b26 : zA τ 0 26 = zu (zA σ 0 26) (zI σ 0 31) b := by rw [hτ]; rfl
  have b27 : zA τ 0 27 = zu (zA σ 0 27) (zI σ 0 31) p := by rw [hτ]; rfl
  have b28 : zA τ 0 28 = zu (zA σ 0 28) (zI σ 0 31) (zI σ 0 32) := by rw [hτ]; rfl
  have b30 : zA τ 0 30 = zu (zA σ 0 30) (zI σ 0 31) 0 := by rw [hτ]; rfl
  clear hτ
  have i : ∀ f : Nat, f ≠ 31 → zI τ 0 f = zI σ 0 f := fun f hf' => hf.1 f (by simpa using hf')
  have r : ∀ f : Nat, f ∉ EA → zA τ 0 f = zA σ 0 f := hf.2
  have hPR : PR σ τ := ⟨hf.up (by decide) (by decide), by rw [i 6 (by decide)]; omega, by rw [i 5 (by decide)]; omega, by rw [i 23 (by decide)]; omega, fun u _ _ => by rw [r 20 (by decide), r 19 (by decide)]; exact ⟨rfl, rfl⟩, by rw [i 18 (by decide)]; exact fun h => h, by rw [i 17 (by decide)]; omega, by rw [i 33 (by decide)]; omega⟩
  have hGL : GL τ := by
    unfold GL
    rw [i 2 (by decide), i 6 (by decide), i 5 (by decide), i 7 (by decide), i 9 (by decide), i 10 (by decide), i 8 (by decide), i 17 (by decide), i 23 (by decide), i 34 (by decide), i 33 (by decide), i 32 (by decide), i 18 (by decide), i 37 (by decide), i 38 (by decide), i 39 (by decide), i 41 (by decide), i 42 (by decide), r 19 (by decide)]
    exact ⟨l1, l2, l3, l4, l5, l6, l7, l8, by omega, l10, l11, l12, l13, l14, l15, l16, l17, l18, l19⟩
  have hus : ∀ m : Int, hasUse σ m → hasUse τ m := fun m => hPR.hasUse
  refine hQ τ ⟨⟨hT.fr hf (by decide) (by decide) (by decide), hGL, ?_, ?_, ?_, ?_, ?_, ?_, ?_, ?_, ?_⟩, hPR, hf, by omega, by omega⟩
  · unfold Gk; rw [i 7 (by decide), i 6 (by decide), i 2 (by decide), i 5 (by decide), i 9 (by decide), r 1 (by decide)]; exact hk
  · unfold Gn; rw [i 7 (by decide), i 17 (by decide), i 5 (by decide)]; exact hn9
  · unfold Gw; rw [i 18 (by decide), i 17 (by decide), i 33 (by decide), i 32 (by decide)]; exact hw
  · unfold G1; rw [r 13 (by decide), r 14 (by decide), r 15 (by decide), r 12 (by decide)]; exact h1
  · unfold G2; rw [r 19 (by decide), r 20 (by decide), r 21 (by decide), r 22 (by decide)]; exact h2
  · intro q q0 q1
    obtain ⟨c1, c2, c3, c4, c5, c6, c7, c8⟩ := h3 q q0 q1
    rw [b24, b25, b26, b27, b28, b30]
    by_cases e : q = zI σ 0 31
    · rw [e, pu_eq, pu_eq, pu_eq, pu_eq, pu_eq, pu_eq]
      exact ⟨hk9, hn, h8, ha, hb, hp, by omega, by omega⟩
    · rw [pu_ne e, pu_ne e, pu_ne e, pu_ne e, pu_ne e, pu_ne e]
      exact ⟨c1, c2, c3, c4, c5, c6, c7, c8⟩
  · unfold G4; rw [r 35 (by decide), r 13 (by decide), r 14 (by decide), r 15 (by decide), i 34 (by decide), i 17 (by decide)]; exact h4
  · refine ⟨fun u u0 u1 => ?_, fun q q0 q1 q2 => ?_⟩
    · rw [i 23 (by decide)] at u1
      rw [r 20 (by decide), i 17 (by decide)]; exact h5.1 u u0 u1
    · rw [b24] at q2
      rw [b25]
      by_cases e : q = zI σ 0 31
      · rw [e, pu_eq] at q2 ⊢; exact hus _ (hu q2)
      · rw [pu_ne e] at q2 ⊢; exact hus _ (h5.2 q q0 (by omega) q2)
  · intro hwr
    rw [i 18 (by decide)] at hwr
    refine ⟨fun q q0 q1 => ?_, ?_⟩
    · rw [b28, i 34 (by decide)]
      by_cases e : q = zI σ 0 31
      · rw [e, pu_eq]; exact ⟨hw.2 hwr hs, l12.2⟩
      · rw [pu_ne e]; exact (h6 hwr).1 q q0 (by omega)
    · rw [i 17 (by decide), r 13 (by decide), r 14 (by decide)]; exact (h6 hwr).2
theorem s_octet {σ : ZS} {b : Int} {Q : ZS → Prop} (hG : GG σ) (hs : zI σ 0 33 = 1) (hp9 : zI σ 0 31 + 1 ≤ 2 * zI σ 0 6 + 8) (hb : -20000000 ≤ b ∧ b ≤ 20000000) (hQ : ∀ τ : ZS, Em 1 σ τ → Q τ) : wpX11_octet b σ Q := by
  unfold wpX11_octet
  exact s_piece hG hs hp9 (by decide) (fun q => absurd q (by decide)) (fun q => absurd q (by decide)) hb (by decide) (by decide) (fun q => absurd q (by decide)) hQ
