/-! P: labels, segments, items, the parse -/
theorem s_label {σ : ZS} {n p : Int} {Q : ZS → Prop} (hG : GG σ) (hs : zI σ 0 33 = 1) (hp9 : zI σ 0 31 + 1 ≤ 2 * zI σ 0 6 + 8) (hn : 0 ≤ n ∧ n < 240 ∧ n < zI σ 0 17) (hp : 0 ≤ p ∧ p ≤ 480) (hQ : ∀ τ : ZS, GG τ → PR σ τ → zI τ 0 6 = zI σ 0 6 → zI τ 0 5 = zI σ 0 5 → zI τ 0 7 = zI σ 0 7 → zI τ 0 9 = zI σ 0 9 → zI τ 0 34 = zI σ 0 34 → zA τ 0 19 = zA σ 0 19 → zI τ 0 23 = zI σ 0 23 → zI τ 0 31 ≤ zI σ 0 31 + 1 → Q τ) : wpX11_label n p σ Q := by
  have hG0 := hG
  obtain ⟨hT, hL, hk, hn9, hw, h1, h2, h3, h4, h5, h6⟩ := hG
  have hL0 := hL
  obtain ⟨l1, l2, l3, l4, l5, l6, l7, l8, l9, l10, l11, l12, l13, l14, l15, l16, l17, l18, l19⟩ := hL
  have hso := h1 n hn.1 hn.2.1
  unfold wpX11_label
  refine ⟨by omega, by omega, fun z => ?_, fun z => ?_⟩
  · obtain ⟨τ, hτ⟩ : ∃ τ, τ = zsA (zsA σ 0 13 n 2) 0 14 n (zI σ 0 32) := ⟨_, rfl⟩
    rw [← hτ]
    have hf : fr [] [13, 14] σ τ := by rw [hτ]; exact (fr.rf.ta (by decide)).ta (by decide)
    have b13 : zA τ 0 13 = zu (zA σ 0 13) n 2 := by rw [hτ]; rfl
    have b14 : zA τ 0 14 = zu (zA σ 0 14) n (zI σ 0 32) := by rw [hτ]; rfl
    clear hτ
    have i : ∀ f : Nat, zI τ 0 f = zI σ 0 f := fun f => hf.1 f (by simp)
    have r : ∀ f : Nat, f ∉ ([13, 14] : List Nat) → zA τ 0 f = zA σ 0 f := hf.2
    have hPR : PR σ τ := ⟨hf.up (by decide) (by decide), by rw [i 6]; omega, by rw [i 5]; omega, by rw [i 23]; omega, fun u _ _ => by rw [r 20 (by decide), r 19 (by decide)]; exact ⟨rfl, rfl⟩, by rw [i 18]; exact fun h => h, by rw [i 17]; omega, by rw [i 33]; omega⟩
    have hGt : GG τ := by
      refine ⟨hT.fr hf (by decide) (by decide) (by decide), ?_, ?_, ?_, ?_, ?_, ?_, ?_, ?_, ?_, ?_⟩
      · unfold GL; simp only [i, r 19 (by decide)]; exact hL0
      · unfold Gk; simp only [i, r 1 (by decide)]; exact hk
      · unfold Gn; simp only [i]; exact hn9
      · unfold Gw; simp only [i]; exact hw
      · intro m m0 m1
        obtain ⟨q1, q2, q3, q4⟩ := h1 m m0 m1
        rw [b13, b14, r 15 (by decide), r 12 (by decide)]
        by_cases e : m = n
        · rw [e, pu_eq, pu_eq]; rw [e] at q3 q4; exact ⟨by decide, by omega, q3, q4⟩
        · rw [pu_ne e, pu_ne e]; exact ⟨q1, q2, q3, q4⟩
      · unfold G2; rw [r 19 (by decide), r 20 (by decide), r 21 (by decide), r 22 (by decide)]; exact h2
      · unfold G3; rw [r 24 (by decide), r 25 (by decide), r 26 (by decide), r 27 (by decide), r 28 (by decide), r 30 (by decide)]; exact h3
      · refine ⟨by rw [r 35 (by decide)]; exact h4.1, fun s s0 s1 => ?_, fun m m0 m1 => ?_⟩
        · rw [i 34] at s1
          obtain ⟨q1, q2, q3, q4⟩ := h4.2.1 s s0 s1
          have hne : zA σ 0 35 s ≠ n := fun e => by rw [e] at q2; omega
          rw [r 35 (by decide), i 17, b13, b14, r 15 (by decide), pu_ne hne, pu_ne hne]
          exact ⟨q1, q2, q3, q4⟩
        · rw [i 17] at m1
          rw [b13, b14, i 34]
          by_cases e : m = n
          · rw [e, pu_eq, pu_eq]; exact ⟨fun q => absurd q (by decide), fun _ => by omega⟩
          · rw [pu_ne e, pu_ne e]; exact h4.2.2 m m0 m1
      · unfold G5 hasUse; simp only [i, r 20 (by decide), r 24 (by decide), r 25 (by decide), r 19 (by decide)]; exact h5
      · intro hwr
        rw [i 18] at hwr
        refine ⟨by rw [i 31, i 34, r 28 (by decide)]; exact (h6 hwr).1, fun m m0 m1 => ?_⟩
        rw [i 17] at m1
        rw [b13, b14]
        by_cases e : m = n
        · rw [e, pu_eq, pu_eq]; exact fun _ => hw.2 hwr hs
        · rw [pu_ne e, pu_ne e]; exact (h6 hwr).2 m m0 m1
    refine s_piece hGt (by rw [i 33]; exact hs) (by rw [i 31, i 6]; exact hp9) (by decide) (fun _ _ => ⟨hn.1, hn.2.1⟩) (fun q => absurd q (by decide)) (by omega) (by decide) hp (fun q => absurd q (by decide)) (fun υ hE => ?_)
    have y := hE.2.2.1
    exact hQ υ hE.1 (hPR.tr hE.2.1) ((y.1 6 (by decide)).trans (i 6)) ((y.1 5 (by decide)).trans (i 5)) ((y.1 7 (by decide)).trans (i 7)) ((y.1 9 (by decide)).trans (i 9)) ((y.1 34 (by decide)).trans (i 34)) ((y.2 19 (by decide)).trans (r 19 (by decide))) ((y.1 23 (by decide)).trans (i 23)) (by have := hE.2.2.2.2; rw [i 31] at this; exact this)
  · exact s_wrongAt hL0 hp (fun w w0 w1 => hQ _ (GG_18 hG0 ⟨w0, w1⟩) (PR_18 w0) rfl rfl rfl rfl rfl rfl rfl (by show zI σ 0 31 ≤ zI σ 0 31 + 1; omega))
theorem s_open {σ : ZS} {n a p : Int} {Q : ZS → Prop} (hG : GG σ) (hn : 0 ≤ n ∧ n < 240 ∧ n < zI σ 0 17) (ha : 1 ≤ a ∧ a ≤ 16) (hp : 0 ≤ p ∧ p ≤ 480) (hsg : zI σ 0 34 < 80 ∧ 6 * (zI σ 0 34 + 1) ≤ zI σ 0 5) (hQ : ∀ τ : ZS, GG τ → PR σ τ → zI τ 0 6 = zI σ 0 6 → zI τ 0 31 = zI σ 0 31 → Q τ) : wpX11_open n a p (zsI σ 0 33 1) Q := by
  obtain ⟨hT, hL, hk, hn9, hw, h1, h2, h3, h4, h5, h6⟩ := hG
  have hL0 := hL
  obtain ⟨l1, l2, l3, l4, l5, l6, l7, l8, l9, l10, l11, l12, l13, l14, l15, l16, l17, l18, l19⟩ := hL
  have hso := h1 n hn.1 hn.2.1
  have b33 : PR σ (zsI σ 0 33 1) := ⟨fr.i (by decide), Int.le_refl _, Int.le_refl _, Int.le_refl _, fun _ _ _ => ⟨rfl, rfl⟩, fun h => h, Int.le_refl _, (by show zI σ 0 33 ≤ 1; omega)⟩
  have f30 : wpX11_open_30 p (zsI σ 0 33 1) Q := by
    unfold wpX11_open_30
    refine s_wrongAt ⟨l1, l2, l3, l4, l5, l6, l7, l8, l9, l10, (by decide : (0 : Int) ≤ 1 ∧ (1 : Int) ≤ 1), l12, l13, l14, l15, l16, l17, l18, l19⟩ hp (fun w w0 w1 => ?_)
    have nv : ¬ zI (zsI (zsI σ 0 33 1) 0 18 w) 0 18 < 0 := by show ¬ w < 0; omega
    refine hQ _ ⟨hT, ⟨l1, l2, l3, l4, l5, l6, l7, l8, l9, l10, (by decide : (0 : Int) ≤ 1 ∧ (1 : Int) ≤ 1), l12, (by show -1 ≤ w ∧ w ≤ 480; omega), l14, l15, l16, l17, l18, l19⟩, hk, hn9, ⟨fun q => absurd q nv, fun q => absurd q nv⟩, h1, h2, h3, h4, h5, fun q => absurd q nv⟩ (b33.tr (PR_18 w0)) rfl rfl
  have f36 : (zA σ 0 13 n = 0 ∨ zA σ 0 13 n = 1) → wpX11_open_36 n a (zsI σ 0 33 1) Q := by
    intro h01
    unfold wpX11_open_36 wpX11_open_89
    refine ⟨by omega, (show -2147483648 ≤ zA σ 0 13 n ∧ zA σ 0 13 n ≤ 2147483647 from by omega), fun nz => ?_, fun z => ?_⟩
    · have e1 : zA σ 0 13 n = 1 := by have nz' : ¬ zA σ 0 13 n = 0 := nz; omega
      have hseg := (h4.2.2 n hn.1 hn.2.2).1 e1
      refine ⟨by omega, hQ _ ⟨hT, ⟨l1, l2, l3, l4, l5, l6, l7, l8, l9, l10, (by decide : (0 : Int) ≤ 1 ∧ (1 : Int) ≤ 1), (by show -1 ≤ zA σ 0 14 n ∧ zA σ 0 14 n < zI σ 0 34; omega), l13, l14, l15, l16, l17, l18, l19⟩, hk, hn9, ⟨hw.1, fun _ _ => hseg.1⟩, h1, h2, h3, h4, h5, h6⟩ ⟨(fr.rf.ti (by decide)).ti (by decide), Int.le_refl _, Int.le_refl _, Int.le_refl _, fun _ _ _ => ⟨rfl, rfl⟩, fun h => h, Int.le_refl _, (by show zI σ 0 33 ≤ 1; omega)⟩ rfl rfl⟩
    · have z' : zA σ 0 13 n = 0 := z
      refine ⟨(show 0 ≤ zI σ 0 34 ∧ zI σ 0 34 < 80 from by omega), by omega, ?_⟩
      obtain ⟨τ, hτ⟩ : ∃ τ, τ = zsI (zsI (zsA (zsA (zsA (zsA (zsI σ 0 33 1) 0 13 n 1) 0 15 n a) 0 14 n (zI (zsI σ 0 33 1) 0 34)) 0 35 (zI (zsI σ 0 33 1) 0 34) n) 0 34 (zI (zsI σ 0 33 1) 0 34 + 1)) 0 32 (zA (zsI (zsA (zsA (zsA (zsA (zsI σ 0 33 1) 0 13 n 1) 0 15 n a) 0 14 n (zI (zsI σ 0 33 1) 0 34)) 0 35 (zI (zsI σ 0 33 1) 0 34) n) 0 34 (zI (zsI σ 0 33 1) 0 34 + 1)) 0 14 n) := ⟨_, rfl⟩
      rw [← hτ]
      have hf : fr [32, 33, 34] [13, 14, 15, 35] σ τ := by rw [hτ]; exact ((((((fr.rf.ti (by decide)).ta (by decide)).ta (by decide)).ta (by decide)).ta (by decide)).ti (by decide)).ti (by decide)
      have b13 : zA τ 0 13 = zu (zA σ 0 13) n 1 := by rw [hτ]; rfl
      have b14 : zA τ 0 14 = zu (zA σ 0 14) n (zI σ 0 34) := by rw [hτ]; rfl
      have b15 : zA τ 0 15 = zu (zA σ 0 15) n a := by rw [hτ]; rfl
      have b35 : zA τ 0 35 = zu (zA σ 0 35) (zI σ 0 34) n := by rw [hτ]; rfl
      have e33 : zI τ 0 33 = 1 := by rw [hτ]; rfl
      have e34 : zI τ 0 34 = zI σ 0 34 + 1 := by rw [hτ]; rfl
      have e32 : zI τ 0 32 = zI σ 0 34 := by rw [hτ]; exact pu_eq (h := zA σ 0 14)
      clear hτ
      have i : ∀ f : Nat, f ∉ ([32, 33, 34] : List Nat) → zI τ 0 f = zI σ 0 f := hf.1
      have r : ∀ f : Nat, f ∉ ([13, 14, 15, 35] : List Nat) → zA τ 0 f = zA σ 0 f := hf.2
      have hPR : PR σ τ := ⟨hf.up (by decide) (by decide), by rw [i 6 (by decide)]; omega, by rw [i 5 (by decide)]; omega, by rw [i 23 (by decide)]; omega, fun u _ _ => by rw [r 20 (by decide), r 19 (by decide)]; exact ⟨rfl, rfl⟩, by rw [i 18 (by decide)]; exact fun h => h, by rw [i 17 (by decide)]; omega, by rw [e33]; omega⟩
      refine hQ τ ⟨hT.fr hf (by decide) (by decide) (by decide), ?_, ?_, ?_, ?_, ?_, ?_, ?_, ?_, ?_, ?_⟩ hPR (i 6 (by decide)) (i 31 (by decide))
      · unfold GL
        rw [i 2 (by decide), i 6 (by decide), i 5 (by decide), i 7 (by decide), i 9 (by decide), i 10 (by decide), i 8 (by decide), i 17 (by decide), i 23 (by decide), i 31 (by decide), e34, e33, e32, i 18 (by decide), i 37 (by decide), i 38 (by decide), i 39 (by decide), i 41 (by decide), i 42 (by decide), r 19 (by decide)]
        exact ⟨l1, l2, l3, l4, l5, l6, l7, l8, l9, by omega, by decide, by omega, l13, l14, l15, l16, l17, l18, l19⟩
      · unfold Gk; rw [i 7 (by decide), i 6 (by decide), i 2 (by decide), i 5 (by decide), i 9 (by decide), r 1 (by decide)]; exact hk
      · unfold Gn; rw [i 7 (by decide), i 17 (by decide), i 5 (by decide)]; exact hn9
      · unfold Gw; rw [i 18 (by decide), i 17 (by decide), e33, e32]; exact ⟨hw.1, fun _ _ => l10.1⟩
      · intro m m0 m1
        obtain ⟨q1, q2, q3, q4⟩ := h1 m m0 m1
        rw [b13, b14, b15, r 12 (by decide)]
        by_cases e : m = n
        · rw [e, pu_eq, pu_eq, pu_eq]; rw [e] at q4; exact ⟨by decide, by omega, by omega, q4⟩
        · rw [pu_ne e, pu_ne e, pu_ne e]; exact ⟨q1, q2, q3, q4⟩
      · unfold G2; rw [r 19 (by decide), r 20 (by decide), r 21 (by decide), r 22 (by decide)]; exact h2
      · unfold G3; rw [r 24 (by decide), r 25 (by decide), r 26 (by decide), r 27 (by decide), r 28 (by decide), r 30 (by decide)]; exact h3
      · refine ⟨fun s s0 s1 => ?_, fun s s0 s1 => ?_, fun m m0 m1 => ?_⟩
        · rw [b35]
          by_cases e : s = zI σ 0 34
          · rw [e, pu_eq]; exact ⟨hn.1, hn.2.1⟩
          · rw [pu_ne e]; exact h4.1 s s0 s1
        · rw [e34] at s1
          rw [b35, i 17 (by decide), b13, b14, b15]
          by_cases e : s = zI σ 0 34
          · rw [e, pu_eq, pu_eq, pu_eq, pu_eq]; exact ⟨hn.2.2, rfl, rfl, ha.1⟩
          · obtain ⟨q1, q2, q3, q4⟩ := h4.2.1 s s0 (by omega)
            have hne : zA σ 0 35 s ≠ n := fun e => by rw [e] at q2; omega
            rw [pu_ne e, pu_ne hne, pu_ne hne, pu_ne hne]
            exact ⟨q1, q2, q3, q4⟩
        · rw [i 17 (by decide)] at m1
          rw [b13, b14, e34]
          by_cases e : m = n
          · rw [e, pu_eq, pu_eq]; exact ⟨fun _ => by omega, fun q => absurd q (by decide)⟩
          · rw [pu_ne e, pu_ne e]
            have q := h4.2.2 m m0 m1
            exact ⟨fun k => by have := q.1 k; omega, fun k => by have := q.2 k; omega⟩
      · unfold G5 hasUse
        rw [i 23 (by decide), i 17 (by decide), i 31 (by decide), r 20 (by decide), r 24 (by decide), r 25 (by decide), r 19 (by decide)]; exact h5
      · intro hwr
        rw [i 18 (by decide)] at hwr
        refine ⟨fun q q0 q1 => ?_, fun m m0 m1 => ?_⟩
        · rw [i 31 (by decide)] at q1
          rw [r 28 (by decide), e34]
          have := (h6 hwr).1 q q0 q1
          omega
        · rw [i 17 (by decide)] at m1
          rw [b13, b14]
          by_cases e : m = n
          · rw [e, pu_eq, pu_eq]; exact fun q => absurd q (by decide)
          · rw [pu_ne e, pu_ne e]; exact (h6 hwr).2 m m0 m1
  unfold wpX11_open
  refine ⟨by omega, (show -2147483648 ≤ zA σ 0 13 n ∧ zA σ 0 13 n ≤ 2147483647 from by omega), fun _ => f30, fun n1 => ⟨fun n2 => f36 ?_, fun e1 => ⟨(show -2147483648 ≤ zA σ 0 15 n ∧ zA σ 0 15 n ≤ 2147483647 from by omega), by omega, fun _ => f36 (Or.inr e1), fun _ => f30⟩⟩⟩
  have n1' : ¬ 1 < zA σ 0 13 n := n1
  have n2' : ¬ zA σ 0 13 n = 1 := n2
  omega
/-! P: directives, items, the whole parse -/
theorem GG_ext {σ : ZS} {n : Int} (hG : GG σ) (hn : 0 ≤ n ∧ n < 240 ∧ n < zI σ 0 17) (hz : zA σ 0 13 n = 0) : GG (zsA σ 0 13 n 3) := by
  obtain ⟨hT, hL, hk, hn9, hw, h1, h2, h3, h4, h5, h6⟩ := hG
  have b13 : zA (zsA σ 0 13 n 3) 0 13 = zu (zA σ 0 13) n 3 := rfl
  refine ⟨hT, hL, hk, hn9, hw, ?_, h2, h3, ?_, h5, ?_⟩
  · intro m m0 m1
    obtain ⟨q1, q2, q3, q4⟩ := h1 m m0 m1
    refine ⟨?_, q2, q3, q4⟩
    rw [b13]
    by_cases e : m = n
    · rw [e, pu_eq]; decide
    · rw [pu_ne e]; exact q1
  · refine ⟨h4.1, fun s s0 s1 => ?_, fun m m0 m1 => ?_⟩
    · obtain ⟨q1, q2, q3, q4⟩ := h4.2.1 s s0 s1
      have hne : zA σ 0 35 s ≠ n := fun e => by rw [e] at q2; omega
      refine ⟨q1, ?_, q3, q4⟩
      show zA (zsA σ 0 13 n 3) 0 13 (zA σ 0 35 s) = 1
      rw [b13, pu_ne hne]; exact q2
    · rw [b13]
      by_cases e : m = n
      · rw [e, pu_eq]; exact ⟨fun q => absurd q (by decide), fun q => absurd q (by decide)⟩
      · rw [pu_ne e]; exact h4.2.2 m m0 m1
  · intro hwr
    refine ⟨(h6 hwr).1, fun m m0 m1 => ?_⟩
    rw [b13]
    by_cases e : m = n
    · rw [e, pu_eq]; exact fun q => absurd q (by decide)
    · rw [pu_ne e]; exact (h6 hwr).2 m m0 m1
/-- between two items -/
def Itm (σ : ZS) : Prop := GG σ ∧ Fresh σ ∧ zI σ 0 31 ≤ 2 * zI σ 0 6 ∧ 6 * zI σ 0 34 ≤ zI σ 0 6 ∧ 7 * cntP (zA σ 0 19) (zI σ 0 23).toNat ≤ zI σ 0 6
/-! P: the parse as a whole -/
/-- what the parse finds -/
def PA0 (σ : ZS) : Prop := Tx σ ∧ ((-1 ≤ zI σ 0 9 ∧ zI σ 0 9 ≤ 47) ∧ (0 ≤ zI σ 0 10 ∧ zI σ 0 10 ≤ 1000009) ∧ (0 ≤ zI σ 0 8 ∧ zI σ 0 8 ≤ 72057594037927936) ∧ (0 ≤ zI σ 0 37 ∧ zI σ 0 37 ≤ 5) ∧ (-100 ≤ zI σ 0 38 ∧ zI σ 0 38 ≤ 1000009) ∧ (-1 ≤ zI σ 0 39 ∧ zI σ 0 39 < 240) ∧ (-1 ≤ zI σ 0 41 ∧ zI σ 0 41 ≤ 47) ∧ (-1 ≤ zI σ 0 42 ∧ zI σ 0 42 ≤ 47)) ∧ G1 σ ∧ G2 σ ∧ G3 σ ∧ (∀ s : Int, 0 ≤ s → s < 80 → 0 ≤ zA σ 0 35 s ∧ zA σ 0 35 s < 240)
theorem GG.pa0 {σ : ZS} (h : GG σ) : PA0 σ := by
  obtain ⟨hT, ⟨l1, l2, l3, l4, l5, l6, l7, l8, l9, l10, l11, l12, l13, l14, l15, l16, l17, l18, l19⟩, hk, hn, hw, h1, h2, h3, h4, h5, h6⟩ := h
  exact ⟨hT, ⟨l4, l5, l6, l14, l15, l16, l17, l18⟩, h1, h2, h3, h4.1⟩
/-! P: behind the parse: names judged, sizes found -/
def AI (σ : ZS) : Prop := ((0 ≤ zI σ 0 17 ∧ zI σ 0 17 ≤ 240) ∧ (0 ≤ zI σ 0 23 ∧ zI σ 0 23 ≤ 480) ∧ (0 ≤ zI σ 0 31 ∧ zI σ 0 31 ≤ 968) ∧ (0 ≤ zI σ 0 34 ∧ zI σ 0 34 ≤ 80) ∧ (-1 ≤ zI σ 0 18 ∧ zI σ 0 18 ≤ 480) ∧ 7 * cntP (zA σ 0 19) (zI σ 0 23).toNat ≤ 480) ∧ (zI σ 0 18 < 0 → zI σ 0 17 ≤ 24) ∧ GA σ
theorem GG.ai {σ : ZS} (h : GG σ) : AI (zsI σ 0 2 0) := by
  obtain ⟨hT, ⟨l1, l2, l3, l4, l5, l6, l7, l8, l9, l10, l11, l12, l13, l14, l15, l16, l17, l18, l19⟩, hk, hn, hw, hA⟩ := h
  refine ⟨⟨?_, ?_, ?_, ?_, l13, ?_⟩, hw.1, hA⟩
  · show 0 ≤ zI σ 0 17 ∧ zI σ 0 17 ≤ 240; omega
  · show 0 ≤ zI σ 0 23 ∧ zI σ 0 23 ≤ 480; omega
  · show 0 ≤ zI σ 0 31 ∧ zI σ 0 31 ≤ 968; omega
  · show 0 ≤ zI σ 0 34 ∧ zI σ 0 34 ≤ 80; omega
  · show 7 * cntP (zA σ 0 19) (zI σ 0 23).toNat ≤ 480; omega
theorem fr.ai {σ τ : ZS} (h : fr [18] [] σ τ) (k : AI σ) (hw : -1 ≤ zI τ 0 18 ∧ zI τ 0 18 ≤ 480) (hm : zI τ 0 18 < 0 → zI σ 0 18 < 0) : AI τ := by
  have i : ∀ f : Nat, f ≠ 18 → zI τ 0 f = zI σ 0 f := fun f hf => h.1 f (by simpa using hf)
  have a : ∀ j : Nat, zA τ 0 j = zA σ 0 j := fun j => h.2 j (by simp)
  obtain ⟨⟨c1, c2, c3, c4, c5, c6⟩, cw, h1, h2, h3, h4, h5, h6⟩ := k
  refine ⟨⟨by rw [i 17 (by decide)]; exact c1, by rw [i 23 (by decide)]; exact c2, by rw [i 31 (by decide)]; exact c3, by rw [i 34 (by decide)]; exact c4, hw, by rw [a 19, i 23 (by decide)]; exact c6⟩, fun q => by rw [i 17 (by decide)]; exact cw (hm q), ?_, ?_, ?_, ?_, ?_, ?_⟩
  · unfold G1; simp only [a]; exact h1
  · unfold G2; simp only [a]; exact h2
  · unfold G3; simp only [a]; exact h3
  · unfold G4; simp only [a, i 34 (by decide), i 17 (by decide)]; exact h4
  · unfold G5 hasUse; simp only [a, i 23 (by decide), i 17 (by decide), i 31 (by decide)]; exact h5
  · intro q
    rw [i 31 (by decide), i 34 (by decide), i 17 (by decide)]
    simp only [a]
    exact h6 (hm q)
/-- a use that was judged -/
def Jd (σ : ZS) (u : Int) : Prop := (zA σ 0 19 u = 0 → zA σ 0 13 (zA σ 0 20 u) = 2) ∧ (zA σ 0 19 u = 1 → zA σ 0 13 (zA σ 0 20 u) ≠ 0) ∧ (zA σ 0 19 u = 4 → 1 < zA σ 0 13 (zA σ 0 20 u))
def psum (f : Int → Int) : Nat → Int
  | 0 => 0
  | n + 1 => psum f n + f n
theorem psum_ext {f g : Int → Int} : ∀ n : Nat, (∀ j : Int, 0 ≤ j → j < n → f j = g j) → psum f n = psum g n
  | 0, _ => rfl
  | n + 1, h => by
    show psum f n + f n = psum g n + g n
    rw [psum_ext n (fun j a b => h j a (by omega)), h n (by omega) (by omega)]
theorem psum_zu {f : Int → Int} {i d : Int} : ∀ n : Nat, 0 ≤ i → i < n → psum (zu f i (f i + d)) n = psum f n + d
  | 0, _, h => by omega
  | n + 1, h0, h1 => by
    show psum (zu f i (f i + d)) n + zu f i (f i + d) n = psum f n + f n + d
    by_cases e : i = n
    · rw [psum_ext (g := f) n (fun j a b => pu_ne (by omega)), e, pu_eq]; omega
    · rw [psum_zu n h0 (by omega), pu_ne (by omega)]; omega
theorem psum_nn {f : Int → Int} : ∀ n : Nat, (∀ j : Int, 0 ≤ j → j < n → 0 ≤ f j) → 0 ≤ psum f n
  | 0, _ => Int.le_refl 0
  | n + 1, h => by
    have := psum_nn n (fun j a b => h j a (by omega))
    have := h n (by omega) (by omega)
    show 0 ≤ psum f n + f n
    omega
theorem psum_mono {f : Int → Int} {m : Nat} : ∀ n : Nat, m ≤ n → (∀ j : Int, 0 ≤ j → j < n → 0 ≤ f j) → psum f m ≤ psum f n
  | 0, hm, _ => by rw [Nat.le_zero.mp hm]; exact Int.le_refl _
  | n + 1, hm, h => by
    rcases Nat.lt_or_ge n m with q | q
    · have : m = n + 1 := by omega
      rw [this]; exact Int.le_refl _
    · have h1 := psum_mono (m := m) n q (fun j a b => h j a (by omega))
      have h2 := h n (by omega) (by omega)
      show _ ≤ psum f n + f n
      omega
/-- bytes of a piece -/
def szf (k a n : Int) : Int := if k = 0 then 1 else if k = 4 then (if n = 0 then 2 else 3) else if k = 6 then 3 else if k = 7 then 0 else if k = 8 then a else 2
def szp (σ : ZS) (p : Int) : Int := szf (zA σ 0 24 p) (zA σ 0 25 p) (zA σ 0 30 p)
theorem szp_bd {σ : ZS} (h : G3 σ) {p : Int} (h0 : 0 ≤ p) (h1 : p < 1200) : 0 ≤ szp σ p ∧ szp σ p ≤ 64 := by
  obtain ⟨q1, q2, q3, q4, q5, q6, q7, q8⟩ := h p h0 h1
  unfold szp szf
  split
  · decide
  · split
    · split <;> decide
    · split
      · decide
      · split
        · decide
        · split
          · rename_i e; exact q3 e
          · decide
theorem s_sizeOf {σ : ZS} {p : Int} {Q : Int → ZS → Prop} (h : G3 σ) (h0 : 0 ≤ p ∧ p < 1200) (hQ : Q (szp σ p) σ) : wpX11_sizeOf p σ Q := by
  obtain ⟨q1, q2, q3, q4, q5, q6, q7, q8⟩ := h p h0.1 h0.2
  unfold szp szf at hQ
  unfold wpX11_sizeOf wpX11_sizeOf_86 wpX11_sizeOf_72
  refine ⟨h0, by omega, fun e => ?_, fun n0 => ⟨fun e => ?_, fun n1 => ⟨fun e => ?_, fun n2 => ⟨fun e => ?_, fun n3 => ⟨fun e => ⟨by omega, fun z => ?_, fun z => ?_⟩, fun n4 => ⟨fun e => ?_, fun n5 => ⟨fun e => ?_, fun n6 => ⟨fun e => ?_, fun n7 => ⟨fun e => ?_, fun n8 => ?_⟩⟩⟩⟩⟩⟩⟩⟩⟩
  · rw [if_pos e] at hQ; exact hQ
  · rw [e] at hQ; exact hQ
  · rw [e] at hQ; exact hQ
  · rw [e] at hQ; exact hQ
  · rw [e, z] at hQ; exact hQ
  · rw [if_neg n0, if_pos e, if_neg z] at hQ; exact hQ
  · rw [e] at hQ; exact hQ
  · rw [e] at hQ; exact hQ
  · rw [e] at hQ; exact hQ
  · rw [if_neg n0, if_neg n4, if_neg n6, if_neg n7, if_pos e] at hQ; exact hQ
  · rw [if_neg n0, if_neg n4, if_neg n6, if_neg n7, if_neg n8] at hQ; exact hQ
/-! P: lay and settle -/
def OFs (σ : ZS) : Prop := ∀ n : Int, 0 ≤ n → n < 240 → 0 ≤ zA σ 0 16 n ∧ zA σ 0 16 n ≤ 62000
def Lyp (σ : ZS) : Prop := (∀ s : Int, 0 ≤ s → s < zI σ 0 34 → 0 ≤ zA σ 0 36 s ∧ zA σ 0 36 s ≤ 62000) ∧ (∀ p : Int, 0 ≤ p → p < zI σ 0 31 → 0 ≤ zA σ 0 29 p ∧ zA σ 0 29 p ≤ 62000 ∧ zA σ 0 29 p + szp σ p ≤ zA σ 0 36 (zA σ 0 28 p)) ∧ psum (zA σ 0 36) (zI σ 0 34).toNat = psum (szp σ) (zI σ 0 31).toNat
/-- the pieces lie in segments -/
def Sg (σ : ZS) : Prop := (0 ≤ zI σ 0 31 ∧ zI σ 0 31 ≤ 968) ∧ (0 ≤ zI σ 0 34 ∧ zI σ 0 34 ≤ 80) ∧ (∀ p : Int, 0 ≤ p → p < zI σ 0 31 → 0 ≤ zA σ 0 28 p ∧ zA σ 0 28 p < zI σ 0 34)
theorem szp_eq {σ τ : ZS} (h24 : zA τ 0 24 = zA σ 0 24) (h25 : zA τ 0 25 = zA σ 0 25) (h30 : zA τ 0 30 = zA σ 0 30) : szp τ = szp σ := by
  funext p
  unfold szp
  rw [h24, h25, h30]
theorem s_distance {σ : ZS} {p : Int} {Q : Int → ZS → Prop} (h3 : G3 σ) (h0 : 0 ≤ p ∧ p < 1200) (hn : 0 ≤ zA σ 0 25 p ∧ zA σ 0 25 p < 240) (hQ : Q (zA σ 0 16 (zA σ 0 25 p) - zA σ 0 29 p - szp σ p) σ) : wpX11_distance p σ Q := by
  unfold wpX11_distance
  exact ⟨h0, hn, s_sizeOf h3 h0 hQ⟩
theorem s_isShort {σ : ZS} {d : Int} {Q : Int → ZS → Prop} (hd : -1000000 ≤ d ∧ d ≤ 1000000) (h1 : -128 ≤ d → d ≤ 127 → Q 1 σ) (h0 : (d < -128 ∨ 127 < d) → Q 0 σ) : wpX11_isShort d σ Q := by
  unfold wpX11_isShort wpX11_isShort_16 wpX11_isShort_17
  exact ⟨by omega, fun q => ⟨by decide, h0 (Or.inl q)⟩, fun q => ⟨fun k => ⟨by decide, h0 (Or.inr k)⟩, fun k => ⟨by decide, h1 (by omega) (by omega)⟩⟩⟩
theorem G3_near {σ : ZS} {p v : Int} (h : G3 σ) (hv : 0 ≤ v ∧ v ≤ 1) : G3 (zsA σ 0 30 p v) := by
  intro q q0 q1
  obtain ⟨c1, c2, c3, c4, c5, c6, c7, c8⟩ := h q q0 q1
  refine ⟨c1, c2, c3, c4, c5, c6, c7, ?_⟩
  show 0 ≤ zu (zA σ 0 30) p v q ∧ zu (zA σ 0 30) p v q ≤ 1
  by_cases e : q = p
  · rw [e, pu_eq]; exact hv
  · rw [pu_ne e]; exact c8
/-- jumps not yet near -/
def cz (σ : ZS) : Int := psum (fun p => if zA σ 0 30 p = 0 then 1 else 0) (zI σ 0 31).toNat
theorem cz_nn {σ : ZS} : 0 ≤ cz σ := psum_nn _ (fun j _ _ => by show 0 ≤ (if zA σ 0 30 j = 0 then (1 : Int) else 0); split <;> decide)
theorem cz_less {σ : ZS} {p : Int} (h0 : 0 ≤ p) (h1 : p < zI σ 0 31) (hz : zA σ 0 30 p = 0) : cz (zsA σ 0 30 p 1) = cz σ - 1 := by
  unfold cz
  have e : psum (fun q => if zA (zsA σ 0 30 p 1) 0 30 q = 0 then 1 else 0) (zI (zsA σ 0 30 p 1) 0 31).toNat = psum (zu (fun q => if zA σ 0 30 q = 0 then 1 else 0) p ((fun q => if zA σ 0 30 q = 0 then (1 : Int) else 0) p + -1)) (zI σ 0 31).toNat := by
    show psum (fun q => if zu (zA σ 0 30) p 1 q = 0 then 1 else 0) (zI σ 0 31).toNat = _
    refine psum_ext _ (fun j a b => ?_)
    show (if zu (zA σ 0 30) p 1 j = 0 then (1 : Int) else 0) = zu (fun q => if zA σ 0 30 q = 0 then (1 : Int) else 0) p ((if zA σ 0 30 p = 0 then (1 : Int) else 0) + -1) j
    by_cases q : j = p
    · rw [q, pu_eq, pu_eq, if_pos hz]; rfl
    · rw [pu_ne q, pu_ne q]
  rw [e, psum_zu _ h0 (by omega)]
  omega
theorem cz_eq {σ τ : ZS} (h30 : zA τ 0 30 = zA σ 0 30) (h31 : zI τ 0 31 = zI σ 0 31) : cz τ = cz σ := by unfold cz; rw [h30, h31]
/-! P: a module is written -/
abbrev WA : List Nat := [43, 44, 45, 46, 47, 48, 49, 50, 51, 52, 53, 54, 55, 56, 57, 58, 59]
def OU (m : Int) (σ τ : ZS) : Prop := (∀ j : Int, j ≠ m → zA τ 0 43 j = zA σ 0 43 j ∧ zA τ 0 44 j = zA σ 0 44 j ∧ zA τ 0 50 j = zA σ 0 50 j ∧ zA τ 0 56 j = zA σ 0 56 j) ∧ (∀ i : Int, i < 24 * m ∨ 24 * m + 24 ≤ i → zA τ 0 46 i = zA σ 0 46 i ∧ zA τ 0 47 i = zA σ 0 47 i ∧ zA τ 0 48 i = zA σ 0 48 i) ∧ (∀ f : Int, f < 200 * m ∨ 200 * m + 200 ≤ f → zA τ 0 51 f = zA σ 0 51 f ∧ zA τ 0 52 f = zA σ 0 52 f ∧ zA τ 0 53 f = zA σ 0 53 f ∧ zA τ 0 54 f = zA σ 0 54 f) ∧ (∀ q : Int, q < 80 * m ∨ 80 * m + 80 ≤ q → zA τ 0 58 q = zA σ 0 58 q ∧ zA τ 0 59 q = zA σ 0 59 q)
theorem OU.rf {m : Int} {σ : ZS} : OU m σ σ := ⟨fun _ _ => ⟨rfl, rfl, rfl, rfl⟩, fun _ _ => ⟨rfl, rfl, rfl⟩, fun _ _ => ⟨rfl, rfl, rfl, rfl⟩, fun _ _ => ⟨rfl, rfl⟩⟩
theorem OU.tr {m : Int} {σ τ υ : ZS} (h : OU m σ τ) (k : OU m τ υ) : OU m σ υ := by
  obtain ⟨a1, a2, a3, a4⟩ := h
  obtain ⟨b1, b2, b3, b4⟩ := k
  refine ⟨fun j hj => ?_, fun j hj => ?_, fun j hj => ?_, fun j hj => ?_⟩
  · obtain ⟨x1, x2, x3, x4⟩ := a1 j hj
    obtain ⟨y1, y2, y3, y4⟩ := b1 j hj
    exact ⟨y1.trans x1, y2.trans x2, y3.trans x3, y4.trans x4⟩
  · obtain ⟨x1, x2, x3⟩ := a2 j hj
    obtain ⟨y1, y2, y3⟩ := b2 j hj
    exact ⟨y1.trans x1, y2.trans x2, y3.trans x3⟩
  · obtain ⟨x1, x2, x3, x4⟩ := a3 j hj
    obtain ⟨y1, y2, y3, y4⟩ := b3 j hj
    exact ⟨y1.trans x1, y2.trans x2, y3.trans x3, y4.trans x4⟩
  · obtain ⟨x1, x2⟩ := a4 j hj
    obtain ⟨y1, y2⟩ := b4 j hj
    exact ⟨y1.trans x1, y2.trans x2⟩
/-- a module -/
def MI (σ : ZS) (m : Int) : Prop := ((0 ≤ zA σ 0 44 m ∧ zA σ 0 44 m ≤ 24) ∧ (0 ≤ zA σ 0 50 m ∧ zA σ 0 50 m ≤ 200) ∧ (0 ≤ zA σ 0 56 m ∧ zA σ 0 56 m ≤ 80)) ∧ (∀ s : Int, 0 ≤ s → s < zA σ 0 44 m → 0 ≤ zA σ 0 47 (24 * m + s) ∧ 0 ≤ zA σ 0 48 (24 * m + s) ∧ zA σ 0 47 (24 * m + s) + zA σ 0 48 (24 * m + s) ≤ 400 ∧ 1 ≤ zA σ 0 46 (24 * m + s) ∧ zA σ 0 46 (24 * m + s) ≤ 16) ∧ (∀ k : Int, 0 ≤ k → k < zA σ 0 50 m → (0 ≤ zA σ 0 51 (200 * m + k) ∧ zA σ 0 51 (200 * m + k) ≤ 2) ∧ (0 ≤ zA σ 0 52 (200 * m + k) ∧ zA σ 0 52 (200 * m + k) < zA σ 0 44 m) ∧ 0 ≤ zA σ 0 53 (200 * m + k) ∧ zA σ 0 53 (200 * m + k) + 2 ≤ zA σ 0 48 (24 * m + zA σ 0 52 (200 * m + k)) ∧ (-1 ≤ zA σ 0 54 (200 * m + k) ∧ zA σ 0 54 (200 * m + k) < zA σ 0 44 m)) ∧ (∀ k : Int, 0 ≤ k → k < zA σ 0 56 m → (0 ≤ zA σ 0 58 (80 * m + k) ∧ zA σ 0 58 (80 * m + k) < zA σ 0 44 m) ∧ (0 ≤ zA σ 0 59 (80 * m + k) ∧ zA σ 0 59 (80 * m + k) ≤ 62000))
theorem MI.ou {σ τ : ZS} {m n : Int} (h : MI σ n) (k : OU m σ τ) (hm : 0 ≤ m ∧ m ≤ 2) (hn : 0 ≤ n ∧ n ≤ 2) (hne : n ≠ m) : MI τ n := by
  obtain ⟨⟨h1, h2, h3⟩, h4, h5, h6⟩ := h
  obtain ⟨a1, a2, a3, a4⟩ := k
  obtain ⟨-, e44, e50, e56⟩ := a1 n hne
  refine ⟨⟨by rw [e44]; exact h1, by rw [e50]; exact h2, by rw [e56]; exact h3⟩, fun s s0 s1 => ?_, fun j j0 j1 => ?_, fun j j0 j1 => ?_⟩
  · rw [e44] at s1
    obtain ⟨x1, x2, x3⟩ := a2 (24 * n + s) (by omega)
    rw [x1, x2, x3]; exact h4 s s0 s1
  · rw [e50] at j1
    obtain ⟨x1, x2, x3, x4⟩ := a3 (200 * n + j) (by omega)
    have hj := h5 j j0 j1
    obtain ⟨-, -, y3⟩ := a2 (24 * n + zA σ 0 52 (200 * n + j)) (by omega)
    rw [x1, x2, x3, x4, e44, y3]; exact hj
  · rw [e56] at j1
    obtain ⟨x1, x2⟩ := a4 (80 * n + j) (by omega)
    rw [x1, x2, e44]; exact h6 j j0 j1
def GM (σ : ZS) : Prop := (∀ i : Int, 0 ≤ i → i < 72 → 0 ≤ zA σ 0 45 i ∧ zA σ 0 45 i ≤ 72057594037927936) ∧ (∀ i : Int, 0 ≤ i → i < 600 → 0 ≤ zA σ 0 55 i ∧ zA σ 0 55 i ≤ 72057594037927936) ∧ (∀ i : Int, 0 ≤ i → i < 240 → 0 ≤ zA σ 0 57 i ∧ zA σ 0 57 i ≤ 72057594037927936) ∧ (∀ i : Int, 0 ≤ i → i < 1200 → 0 ≤ zA σ 0 49 i ∧ zA σ 0 49 i ≤ 255) ∧ (∀ i : Int, 0 ≤ i → i < 3 → 0 ≤ zA σ 0 43 i ∧ zA σ 0 43 i ≤ 1)
/-- what is known when a module is written -/
def WC (β : ZS) : Prop := G1 β ∧ G2 β ∧ G3 β ∧ OFs β ∧ Lyp β ∧ Sg β ∧ zI β 0 34 ≤ 24 ∧ (∀ s : Int, 0 ≤ s → s < zI β 0 34 → (0 ≤ zA β 0 35 s ∧ zA β 0 35 s < 240) ∧ 1 ≤ zA β 0 15 (zA β 0 35 s)) ∧ psum (zA β 0 36) (zI β 0 34).toNat ≤ 400 ∧ (∀ j : Int, 0 ≤ j → j < zI β 0 31 → zA β 0 24 j = 4 → zA β 0 13 (zA β 0 25 j) = 3 → zA β 0 30 j = 1) ∧ (∀ p : Int, 0 ≤ p → p < zI β 0 31 → zA β 0 24 p = 2 ∨ zA β 0 24 p = 3 → -1 ≤ zA β 0 14 (zA β 0 25 p) ∧ (zA β 0 13 (zA β 0 25 p) ≠ 3 → zA β 0 14 (zA β 0 25 p) < zI β 0 34)) ∧ (∀ u : Int, 0 ≤ u → u < zI β 0 23 → zA β 0 19 u = 0 → 0 ≤ zA β 0 14 (zA β 0 20 u) ∧ zA β 0 14 (zA β 0 20 u) < zI β 0 34) ∧ (0 ≤ zI β 0 23 ∧ zI β 0 23 ≤ 480) ∧ 7 * cntP (zA β 0 19) (zI β 0 23).toNat ≤ 480
def FX (β : ZS) (m : Int) (τ : ZS) : Prop := ∀ k : Int, 0 ≤ k → k < zA τ 0 50 m → (0 ≤ zA τ 0 51 (200 * m + k) ∧ zA τ 0 51 (200 * m + k) ≤ 2) ∧ (0 ≤ zA τ 0 52 (200 * m + k) ∧ zA τ 0 52 (200 * m + k) < zI β 0 34) ∧ 0 ≤ zA τ 0 53 (200 * m + k) ∧ zA τ 0 53 (200 * m + k) + 2 ≤ zA β 0 36 (zA τ 0 52 (200 * m + k)) ∧ (-1 ≤ zA τ 0 54 (200 * m + k) ∧ zA τ 0 54 (200 * m + k) < zI β 0 34)
def MT (β : ZS) (m : Int) (τ : ZS) : Prop := ∀ s : Int, 0 ≤ s → s < zI β 0 34 → zA τ 0 47 (24 * m + s) = psum (zA β 0 36) s.toNat ∧ zA τ 0 48 (24 * m + s) = zA β 0 36 s
abbrev UA : List Nat := [49, 50, 51, 52, 53, 54, 55]
/-- while pieces are put -/
def PU (β : ZS) (m : Int) (τ υ : ZS) (c : Int) : Prop := fr [] UA τ υ ∧ OU m τ υ ∧ GM υ ∧ FX β m υ ∧ zA υ 0 50 m = c
/-! P: a module is written, whole -/
theorem OU.u43 {m v : Int} {σ τ : ZS} (h : OU m σ τ) : OU m σ (zsA τ 0 43 m v) := h.tr ⟨fun _ hj => ⟨pu_ne hj, rfl, rfl, rfl⟩, fun _ _ => ⟨rfl, rfl, rfl⟩, fun _ _ => ⟨rfl, rfl, rfl, rfl⟩, fun _ _ => ⟨rfl, rfl⟩⟩
theorem OU.u44 {m v : Int} {σ τ : ZS} (h : OU m σ τ) : OU m σ (zsA τ 0 44 m v) := h.tr ⟨fun _ hj => ⟨rfl, pu_ne hj, rfl, rfl⟩, fun _ _ => ⟨rfl, rfl, rfl⟩, fun _ _ => ⟨rfl, rfl, rfl, rfl⟩, fun _ _ => ⟨rfl, rfl⟩⟩
theorem OU.u50 {m v : Int} {σ τ : ZS} (h : OU m σ τ) : OU m σ (zsA τ 0 50 m v) := h.tr ⟨fun _ hj => ⟨rfl, rfl, pu_ne hj, rfl⟩, fun _ _ => ⟨rfl, rfl, rfl⟩, fun _ _ => ⟨rfl, rfl, rfl, rfl⟩, fun _ _ => ⟨rfl, rfl⟩⟩
theorem OU.u56 {m v : Int} {σ τ : ZS} (h : OU m σ τ) : OU m σ (zsA τ 0 56 m v) := h.tr ⟨fun _ hj => ⟨rfl, rfl, rfl, pu_ne hj⟩, fun _ _ => ⟨rfl, rfl, rfl⟩, fun _ _ => ⟨rfl, rfl, rfl, rfl⟩, fun _ _ => ⟨rfl, rfl⟩⟩
theorem OU.u45 {m i v : Int} {σ τ : ZS} (h : OU m σ τ) : OU m σ (zsA τ 0 45 i v) := h
theorem OU.u49 {m i v : Int} {σ τ : ZS} (h : OU m σ τ) : OU m σ (zsA τ 0 49 i v) := h
theorem OU.u57 {m i v : Int} {σ τ : ZS} (h : OU m σ τ) : OU m σ (zsA τ 0 57 i v) := h
theorem OU.u46 {m i v : Int} {σ τ : ZS} (h : OU m σ τ) (hi : 24 * m ≤ i ∧ i < 24 * m + 24) : OU m σ (zsA τ 0 46 i v) := h.tr ⟨fun _ _ => ⟨rfl, rfl, rfl, rfl⟩, fun _ hj => ⟨pu_ne (by omega), rfl, rfl⟩, fun _ _ => ⟨rfl, rfl, rfl, rfl⟩, fun _ _ => ⟨rfl, rfl⟩⟩
theorem OU.u47 {m i v : Int} {σ τ : ZS} (h : OU m σ τ) (hi : 24 * m ≤ i ∧ i < 24 * m + 24) : OU m σ (zsA τ 0 47 i v) := h.tr ⟨fun _ _ => ⟨rfl, rfl, rfl, rfl⟩, fun _ hj => ⟨rfl, pu_ne (by omega), rfl⟩, fun _ _ => ⟨rfl, rfl, rfl, rfl⟩, fun _ _ => ⟨rfl, rfl⟩⟩
theorem OU.u48 {m i v : Int} {σ τ : ZS} (h : OU m σ τ) (hi : 24 * m ≤ i ∧ i < 24 * m + 24) : OU m σ (zsA τ 0 48 i v) := h.tr ⟨fun _ _ => ⟨rfl, rfl, rfl, rfl⟩, fun _ hj => ⟨rfl, rfl, pu_ne (by omega)⟩, fun _ _ => ⟨rfl, rfl, rfl, rfl⟩, fun _ _ => ⟨rfl, rfl⟩⟩
theorem OU.u58 {m i v : Int} {σ τ : ZS} (h : OU m σ τ) (hi : 80 * m ≤ i ∧ i < 80 * m + 80) : OU m σ (zsA τ 0 58 i v) := h.tr ⟨fun _ _ => ⟨rfl, rfl, rfl, rfl⟩, fun _ _ => ⟨rfl, rfl, rfl⟩, fun _ _ => ⟨rfl, rfl, rfl, rfl⟩, fun _ hj => ⟨pu_ne (by omega), rfl⟩⟩
theorem OU.u59 {m i v : Int} {σ τ : ZS} (h : OU m σ τ) (hi : 80 * m ≤ i ∧ i < 80 * m + 80) : OU m σ (zsA τ 0 59 i v) := h.tr ⟨fun _ _ => ⟨rfl, rfl, rfl, rfl⟩, fun _ _ => ⟨rfl, rfl, rfl⟩, fun _ _ => ⟨rfl, rfl, rfl, rfl⟩, fun _ hj => ⟨rfl, pu_ne (by omega)⟩⟩
theorem rng_zu {h : Int → Int} {i v n lo hi : Int} (hh : ∀ j : Int, 0 ≤ j → j < n → lo ≤ h j ∧ h j ≤ hi) (hv : lo ≤ v ∧ v ≤ hi) : ∀ j : Int, 0 ≤ j → j < n → lo ≤ zu h i v j ∧ zu h i v j ≤ hi := by
  intro j j0 j1
  by_cases e : j = i
  · rw [e, pu_eq]; exact hv
  · rw [pu_ne e]; exact hh j j0 j1
theorem GM.u43 {σ : ZS} {i v : Int} (h : GM σ) (hv : 0 ≤ v ∧ v ≤ 1) : GM (zsA σ 0 43 i v) := ⟨h.1, h.2.1, h.2.2.1, h.2.2.2.1, rng_zu h.2.2.2.2 hv⟩
theorem GM.u45 {σ : ZS} {i v : Int} (h : GM σ) (hv : 0 ≤ v ∧ v ≤ 72057594037927936) : GM (zsA σ 0 45 i v) := ⟨rng_zu h.1 hv, h.2⟩
theorem GM.u49 {σ : ZS} {i v : Int} (h : GM σ) (hv : 0 ≤ v ∧ v ≤ 255) : GM (zsA σ 0 49 i v) := ⟨h.1, h.2.1, h.2.2.1, rng_zu h.2.2.2.1 hv, h.2.2.2.2⟩
theorem GM.u57 {σ : ZS} {i v : Int} (h : GM σ) (hv : 0 ≤ v ∧ v ≤ 72057594037927936) : GM (zsA σ 0 57 i v) := ⟨h.1, h.2.1, rng_zu h.2.2.1 hv, h.2.2.2⟩
theorem cntP_mono {h : Int → Int} {m : Nat} : ∀ n : Nat, m ≤ n → cntP h m ≤ cntP h n
  | 0, q => by rw [show m = 0 by omega]; exact Int.le_refl _
  | n + 1, q => by
    by_cases e : m = n + 1
    · rw [e]; exact Int.le_refl _
    · have := cntP_mono (h := h) (m := m) n (by omega)
      show cntP h m ≤ cntP h n + (if h n = 0 then 1 else 0)
      split <;> omega
def PB (β : ZS) (m : Int) (τ : ZS) : Prop := ∀ k : Int, 0 ≤ k → k < zA τ 0 56 m → (0 ≤ zA τ 0 58 (80 * m + k) ∧ zA τ 0 58 (80 * m + k) < zI β 0 34) ∧ (0 ≤ zA τ 0 59 (80 * m + k) ∧ zA τ 0 59 (80 * m + k) ≤ 62000)
/-! P: the reference assembles -/
theorem psum_le {f g : Int → Int} : ∀ n : Nat, (∀ j : Int, 0 ≤ j → j < n → f j ≤ g j) → psum f n ≤ psum g n
  | 0, _ => Int.le_refl 0
  | n + 1, h => by
    have h1 := psum_le n (fun j a b => h j a (by omega))
    have h2 := h n (by omega) (by omega)
    show psum f n + f n ≤ psum g n + g n
    omega
theorem psum_add {f g : Int → Int} : ∀ n : Nat, psum (fun j => f j + g j) n = psum f n + psum g n
  | 0 => rfl
  | n + 1 => by
    show psum (fun j => f j + g j) n + (f n + g n) = psum f n + f n + (psum g n + g n)
    rw [psum_add n]; omega
theorem psum_one {a : Int} : ∀ n : Nat, psum (fun j => if j = a then 1 else 0) n ≤ if a < n then 1 else 0
  | 0 => by show (0 : Int) ≤ _; split <;> decide
  | n + 1 => by
    have h := psum_one (a := a) n
    show psum (fun j => if j = a then 1 else 0) n + (if (n : Int) = a then 1 else 0) ≤ _
    revert h
    split <;> split <;> split <;> intro h <;> omega
theorem psum_const : ∀ n : Nat, psum (fun _ => 1) n = n
  | 0 => rfl
  | n + 1 => by
    show psum (fun _ => 1) n + 1 = ((n + 1 : Nat) : Int)
    rw [psum_const n]; omega
theorem pig {f g : Int → Int} {n : Nat} : ∀ k : Nat, (∀ s : Int, 0 ≤ s → s < n → 0 ≤ f s ∧ g (f s) = s) → psum (fun s => if f s < k then 1 else 0) n ≤ k
  | 0, h => by
    rw [psum_ext (g := fun _ => 0) n (fun j a b => by show (if f j < ((0 : Nat) : Int) then (1 : Int) else 0) = 0; have := h j a b; rw [if_neg (by omega)])]
    have : ∀ m : Nat, psum (fun _ => 0) m = 0 := by
      intro m
      induction m with
      | zero => rfl
      | succ m ih => show psum (fun _ => 0) m + 0 = 0; rw [ih]; rfl
    rw [this]; omega
  | k + 1, h => by
    have h1 := pig k h
    have h2 := psum_one (a := g k) n
    have h3 : psum (fun s => if f s < ((k + 1 : Nat) : Int) then (1 : Int) else 0) n ≤ psum (fun j => (fun s => if f s < (k : Int) then (1 : Int) else 0) j + (fun j => if j = g k then (1 : Int) else 0) j) n := by
      refine psum_le n (fun j a b => ?_)
      show (if f j < ((k + 1 : Nat) : Int) then (1 : Int) else 0) ≤ (if f j < (k : Int) then (1 : Int) else 0) + (if j = g k then (1 : Int) else 0)
      by_cases e1 : f j < (k : Int)
      · rw [if_pos e1, if_pos (by omega)]; split <;> decide
      · by_cases e2 : f j = (k : Int)
        · have e3 : j = g k := by rw [← e2]; exact (h j a b).2.symm
          rw [if_neg e1, if_pos e3]; split <;> decide
        · rw [if_neg (by omega), if_neg e1]; split <;> decide
    rw [psum_add] at h3
    have h4 : (if g k < (n : Int) then (1 : Int) else 0) ≤ 1 := by split <;> decide
    omega
theorem pigeon {f g : Int → Int} {n k : Int} (hn : 0 ≤ n) (hk : 0 ≤ k) (h : ∀ s : Int, 0 ≤ s → s < n → (0 ≤ f s ∧ f s < k) ∧ g (f s) = s) : n ≤ k := by
  have h1 := pig (f := f) (g := g) (n := n.toNat) k.toNat (fun s a b => ⟨(h s a (by omega)).1.1, (h s a (by omega)).2⟩)
  rw [psum_ext (g := fun _ => 1) n.toNat (fun j a b => by show (if f j < ((k.toNat : Nat) : Int) then (1 : Int) else 0) = 1; have := h j a (by omega); rw [if_pos (by omega)]), psum_const] at h1
  omega
abbrev HA : List Nat := [16, 29, 30, 36, 43, 44, 45, 46, 47, 48, 49, 50, 51, 52, 53, 54, 55, 56, 57, 58, 59]
theorem PA0.up {σ τ : ZS} (h : PA0 σ) (i : ∀ f : Nat, f ∉ [0, 3, 4, 18] → zI τ 0 f = zI σ 0 f) (a : ∀ j : Nat, j ∉ HA → zA τ 0 j = zA σ 0 j) (g3 : G3 τ) : PA0 τ := by
  obtain ⟨hT, hL, h1, h2, h3, h4⟩ := h
  refine ⟨?_, ?_, ?_, ?_, g3, ?_⟩
  · unfold Tx; rw [i 2 (by decide), a 1 (by decide), a 11 (by decide)]; exact hT
  · rw [i 9 (by decide), i 10 (by decide), i 8 (by decide), i 37 (by decide), i 38 (by decide), i 39 (by decide), i 41 (by decide), i 42 (by decide)]; exact hL
  · unfold G1; rw [a 12 (by decide), a 13 (by decide), a 14 (by decide), a 15 (by decide)]; exact h1
  · unfold G2; rw [a 19 (by decide), a 20 (by decide), a 21 (by decide), a 22 (by decide)]; exact h2
  · rw [a 35 (by decide)]; exact h4
theorem GM.up {σ τ : ZS} (h : GM σ) (a : ∀ j : Nat, j ∈ WA → zA τ 0 j = zA σ 0 j) : GM τ := by
  unfold GM; rw [a 45 (by decide), a 55 (by decide), a 57 (by decide), a 49 (by decide), a 43 (by decide)]; exact h
theorem MI.up {σ τ : ZS} {n : Int} (h : MI σ n) (a : ∀ j : Nat, j ∈ WA → zA τ 0 j = zA σ 0 j) : MI τ n := by
  unfold MI; rw [a 44 (by decide), a 50 (by decide), a 56 (by decide), a 47 (by decide), a 48 (by decide), a 46 (by decide), a 51 (by decide), a 52 (by decide), a 53 (by decide), a 54 (by decide), a 58 (by decide), a 59 (by decide)]; exact h
theorem OFs.up {σ τ : ZS} (h : OFs σ) (a : zA τ 0 16 = zA σ 0 16) : OFs τ := by unfold OFs; rw [a]; exact h
/-- what stands between calls, assembler's side -/
def RA (σ : ZS) : Prop := PA0 σ ∧ OFs σ ∧ GM σ ∧ (∀ n : Int, 0 ≤ n → n ≤ 2 → MI σ n)
abbrev AF : List Nat := [0, 2, 3, 4, 5, 6, 7, 8, 9, 10, 17, 18, 23, 31, 32, 33, 34, 37, 38, 39, 40, 41, 42]
abbrev AA : List Nat := [12, 13, 14, 15, 16, 19, 20, 21, 22, 24, 25, 26, 27, 28, 29, 30, 35, 36, 43, 44, 45, 46, 47, 48, 49, 50, 51, 52, 53, 54, 55, 56, 57, 58, 59]
/-! P: the reference links: publics -/
theorem zor_bytes {b c : Int} (hb : 0 ≤ b ∧ b < 256) (hc : 0 ≤ c ∧ c < 256) : zor b (c * 256) = c * 256 + b := by
  unfold zor
  have e1 : Int32.ofInt (c * 256) = Int32.ofNat (c.toNat * 256) := by
    apply Int32.toInt_inj.mp
    rw [z_ti (by omega), Int32.toInt_ofNat_of_lt (by omega)]
    omega
  have e2 : Int32.ofInt b = Int32.ofNat b.toNat := by
    apply Int32.toInt_inj.mp
    rw [z_ti (by omega), Int32.toInt_ofNat_of_lt (by omega)]
    omega
  have e3 : Int32.ofNat b.toNat ||| Int32.ofNat (c.toNat * 256) = Int32.ofNat (c.toNat * 256 + b.toNat) := by
    apply Int32.toBitVec_inj.mp
    apply BitVec.eq_of_toNat_eq
    rw [Int32.toBitVec_or, BitVec.toNat_or]
    show (BitVec.ofNat 32 _).toNat ||| (BitVec.ofNat 32 _).toNat = (BitVec.ofNat 32 _).toNat
    rw [BitVec.toNat_ofNat, BitVec.toNat_ofNat, BitVec.toNat_ofNat, Nat.mod_eq_of_lt (by omega), Nat.mod_eq_of_lt (by omega), Nat.mod_eq_of_lt (by omega), Nat.or_comm]
    have := Nat.shiftLeft_add_eq_or_of_lt (b := b.toNat) (i := 8) (by omega) c.toNat
    rw [Nat.shiftLeft_eq] at this
    exact this.symm
  rw [e1, e2, e3, Int32.toInt_ofNat_of_lt (by omega)]
  omega
def Pub (σ : ZS) (w : Int) : Prop := ∃ m k : Int, (0 ≤ m ∧ m ≤ 2) ∧ zA σ 0 43 m ≠ 0 ∧ (0 ≤ k ∧ k < zA σ 0 56 m) ∧ zA σ 0 57 (80 * m + k) = w
/-- all modules -/
def MA (σ : ZS) : Prop := GM σ ∧ (∀ n : Int, 0 ≤ n → n ≤ 2 → MI σ n)
theorem s_publicIn {σ : ZS} {m w : Int} {Q : Int → ZS → Prop} (hA : MA σ) (hm : 0 ≤ m ∧ m ≤ 2) (hw : 0 ≤ w ∧ w ≤ 72057594037927936) (h0 : (∀ k : Int, 0 ≤ k → k < zA σ 0 56 m → zA σ 0 43 m ≠ 0 → zA σ 0 57 (80 * m + k) ≠ w) → Q (-1) σ) (h1 : ∀ k : Int, 0 ≤ k → k < zA σ 0 56 m → zA σ 0 43 m ≠ 0 → zA σ 0 57 (80 * m + k) = w → Q (80 * m + k) σ) : wpX11_publicIn m w σ Q := by
  have hM := (hA.2 m hm.1 hm.2).1.2.2
  have h43 := hA.1.2.2.2.2 m hm.1 (by omega)
  unfold wpX11_publicIn wpX11_publicIn_3
  refine lfp1_ind (fun v _ => (80 - v).toNat) (fun v τ => τ = σ ∧ (0 ≤ v ∧ v ≤ zA σ 0 56 m) ∧ (∀ k : Int, 0 ≤ k → k < v → zA σ 0 43 m ≠ 0 → zA σ 0 57 (80 * m + k) ≠ w)) ?_ ⟨rfl, by omega, fun k k0 k1 => absurd k1 (by omega)⟩
  intro P v τ ⟨he, hv, hno⟩ ih
  rw [he]
  show wpbX11_publicIn_3 P m w v σ Q
  unfold wpbX11_publicIn_3 wpX11_publicIn_54
  refine ⟨by omega, by omega, by omega, fun e => h0 (fun k k0 k1 => hno k k0 (by omega)), fun ne => ⟨by omega, fun z => h0 (fun k _ _ q => absurd z q), fun nz => ?_⟩⟩
  have h57 := hA.1.2.2.1 (80 * m + v) (by omega) (by omega)
  refine ⟨by omega, by omega, by omega, fun nw => ih _ _ ⟨rfl, by omega, fun k k0 k1 q => ?_⟩ (by show (80 - (v + 1)).toNat < (80 - v).toNat; omega), fun ew => h1 v hv.1 (by omega) nz ew⟩
  by_cases e : k = v
  · rw [e]; exact nw
  · exact hno k k0 (by omega) q
theorem s_publicOf {σ : ZS} {w : Int} {Q : Int → ZS → Prop} (hA : MA σ) (hw : 0 ≤ w ∧ w ≤ 72057594037927936) (h0 : ¬ Pub σ w → Q (-1) σ) (h1 : ∀ m k : Int, (0 ≤ m ∧ m ≤ 2) → (0 ≤ k ∧ k < zA σ 0 56 m) → zA σ 0 43 m ≠ 0 → zA σ 0 57 (80 * m + k) = w → Q (80 * m + k) σ) : wpX11_publicOf w σ Q := by
  unfold wpX11_publicOf wpX11_publicOf_2
  refine lfp1_ind (fun v _ => (3 - v).toNat) (fun v τ => τ = σ ∧ (0 ≤ v ∧ v ≤ 3) ∧ (∀ m k : Int, 0 ≤ m → m < v → 0 ≤ k → k < zA σ 0 56 m → zA σ 0 43 m ≠ 0 → zA σ 0 57 (80 * m + k) ≠ w)) ?_ ⟨rfl, by omega, fun m k k0 k1 => absurd k1 (by omega)⟩
  intro P v τ ⟨he, hv, hno⟩ ih
  rw [he]
  show wpbX11_publicOf_2 P w v σ Q
  unfold wpbX11_publicOf_2
  refine ⟨by omega, fun e => h0 (fun ⟨m, k, hm, h43, hk, h57⟩ => hno m k hm.1 (by omega) hk.1 hk.2 h43 h57), fun ne => ?_⟩
  refine s_publicIn hA ⟨hv.1, by omega⟩ hw (fun hn => ⟨by decide, fun _ => ih _ _ ⟨rfl, by omega, fun m k m0 m1 k0 k1 q => ?_⟩ (by show (3 - (v + 1)).toNat < (3 - v).toNat; omega), fun q => absurd (by decide) q⟩) (fun k k0 k1 q e => ?_)
  · by_cases e : m = v
    · rw [e] at k1 q ⊢; exact hn k k0 k1 q
    · exact hno m k m0 (by omega) k0 k1 q
  · have hM := (hA.2 v hv.1 (by omega)).1.2.2
    exact ⟨by omega, fun l => absurd l (by omega), fun _ => h1 v k ⟨hv.1, by omega⟩ ⟨k0, k1⟩ q e⟩
def NoMiss (σ : ZS) : Prop := ∀ m k : Int, 0 ≤ m → m ≤ 2 → zA σ 0 43 m ≠ 0 → 0 ≤ k → k < zA σ 0 50 m → zA σ 0 54 (200 * m + k) < 0 → Pub σ (zA σ 0 55 (200 * m + k))
/-! P: the reference combines -/
theorem al_bd {a b : Int} (ha : 0 ≤ a) (hb : 1 ≤ b ∧ b ≤ 16) : a ≤ (a + b - 1) / b * b ∧ (a + b - 1) / b * b ≤ a + 15 := by
  have h1 := Int.mul_ediv_add_emod (a + b - 1) b
  have h2 := Int.emod_nonneg (a + b - 1) (show b ≠ 0 by omega)
  have h3 := Int.emod_lt_of_pos (a + b - 1) (show 0 < b by omega)
  rw [Int.mul_comm] at h1
  omega
abbrev CA : List Nat := [67, 68, 69, 70, 71, 72]
def Done (σ τ : ZS) (v1 v2 : Int) : Prop := ∀ m s : Int, 0 ≤ m → m ≤ 2 → 0 ≤ s → s < zA σ 0 44 m → zA σ 0 43 m ≠ 0 → (m < v1 ∨ (m = v1 ∧ s < v2)) → (0 ≤ zA τ 0 71 (24 * m + s) ∧ zA τ 0 71 (24 * m + s) < zI τ 0 73) ∧ 0 ≤ zA τ 0 72 (24 * m + s) ∧ zA τ 0 72 (24 * m + s) + zA σ 0 48 (24 * m + s) ≤ zA τ 0 69 (zA τ 0 71 (24 * m + s))
def Cmb (σ τ : ZS) (N : Int) : Prop := fr [73] CA σ τ ∧ (0 ≤ zI τ 0 73 ∧ zI τ 0 73 ≤ N) ∧ (∀ j : Int, 0 ≤ j → j < zI τ 0 73 → (0 ≤ zA τ 0 69 j ∧ zA τ 0 69 j ≤ 415 * N) ∧ (0 ≤ zA τ 0 68 j ∧ zA τ 0 68 j ≤ 72057594037927936))
theorem Cmb.mo {σ τ : ZS} {N M : Int} (h : Cmb σ τ N) (hN : N ≤ M) : Cmb σ τ M := ⟨h.1, by have := h.2.1; omega, fun j a b => by have := h.2.2 j a b; omega⟩
/-- what combining leaves -/
def CB (τ : ZS) : Prop := (0 ≤ zI τ 0 73 ∧ zI τ 0 73 ≤ 72) ∧ (∀ m s : Int, 0 ≤ m → m ≤ 2 → 0 ≤ s → s < zA τ 0 44 m → zA τ 0 43 m ≠ 0 → (0 ≤ zA τ 0 71 (24 * m + s) ∧ zA τ 0 71 (24 * m + s) < zI τ 0 73) ∧ 0 ≤ zA τ 0 72 (24 * m + s) ∧ zA τ 0 72 (24 * m + s) + zA τ 0 48 (24 * m + s) ≤ zA τ 0 69 (zA τ 0 71 (24 * m + s))) ∧ (∀ j : Int, 0 ≤ j → j < zI τ 0 73 → (0 ≤ zA τ 0 69 j ∧ zA τ 0 69 j ≤ 30000) ∧ 0 ≤ zA τ 0 70 j ∧ zA τ 0 70 j + zA τ 0 69 j ≤ zA τ 0 67 0) ∧ (0 ≤ zA τ 0 67 0 ∧ zA τ 0 67 0 ≤ 3000000)
