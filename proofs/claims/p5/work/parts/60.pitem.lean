/-! P: labels, segments, items, the parse -/
theorem s_label {σ : ZS} {n p : Int} {Q : ZS → Prop} (hG : GG σ) (hs : zI σ 0 33 = 1) (hp9 : zI σ 0 31 + 1 ≤ 2 * zI σ 0 6 + 8) (hn : 0 ≤ n ∧ n < 240 ∧ n < zI σ 0 17) (hp : 0 ≤ p ∧ p ≤ 480) (hQ : ∀ τ : ZS, GG τ → PR σ τ → zI τ 0 6 = zI σ 0 6 → zI τ 0 5 = zI σ 0 5 → zI τ 0 7 = zI σ 0 7 → zI τ 0 9 = zI σ 0 9 → zI τ 0 34 = zI σ 0 34 → zA τ 0 19 = zA σ 0 19 → zI τ 0 23 = zI σ 0 23 → zI τ 0 31 ≤ zI σ 0 31 + 1 → Q τ) : wpX11_label n p σ Q := by
  have hG0 := hG
  obtain ⟨hT, hL, hk, hn9, hw, h1, h2, h3, h4, h5, h6⟩ := hG
  have hL0 := hL
  obtain ⟨l1, l2, l3, l4, l5, l6, l7, l8, l9, l10, l11, l12, l13, l14, l15, l16, l17, l18, l19⟩ := hL
  have hso := h1 n hn.1 hn.2.1
  unfold wpX11_label
  refine ⟨by omega, by omega, fun z => ?_, fun z => ?_⟩
  · obtain ⟨τ, hτ⟩ : ∃ τ, τ = zsA (zsA σ 0 13 n 2) 0 14 n (zI σ 0 32) := ⟨_, rfl⟩
    rw [← hτ]
    have hf : fr [] [13, 14] σ τ := by rw [hτ]; exact (fr.rf.ta (by decide)).ta (by decide)
    have b13 : zA τ 0 13 = zu (zA σ 0 13) n 2 := by rw [hτ]; rfl
    have b14 : zA τ 0 14 = zu (zA σ 0 14) n (zI σ 0 32) := by rw [hτ]; rfl
    clear hτ
    have i : ∀ f : Nat, zI τ 0 f = zI σ 0 f := fun f => hf.1 f (by simp)
    have r : ∀ f : Nat, f ∉ ([13, 14] : List Nat) → zA τ 0 f = zA σ 0 f := hf.2
    have hPR : PR σ τ := ⟨hf.up (by decide) (by decide), by rw [i 6]; omega, by rw [i 5]; omega, by rw [i 23]; omega, fun u _ _ => by rw [r 20 (by decide), r 19 (by decide)]; exact ⟨rfl, rfl⟩, by rw [i 18]; exact fun h => h, by rw [i 17]; omega, by rw [i 33]; omega⟩
    have hGt : GG τ := by
      refine ⟨hT.fr hf (by decide) (by decide) (by decide), ?_, ?_, ?_, ?_, ?_, ?_, ?_, ?_, ?_, ?_⟩
      · unfold GL; simp only [i, r 19 (by decide)]; exact hL0
      · unfold Gk; simp only [i, r 1 (by decide)]; exact hk
      · unfold Gn; simp only [i]; exact hn9
      · unfold Gw; simp only [i]; exact hw
      · intro m m0 m1
        obtain ⟨q1, q2, q3, q4⟩ := h1 m m0 m1
        rw [b13, b14, r 15 (by decide), r 12 (by decide)]
        by_cases e : m = n
        · rw [e, pu_eq, pu_eq]; rw [e] at q3 q4; exact ⟨by decide, by omega, q3, q4⟩
        · rw [pu_ne e, pu_ne e]; exact ⟨q1, q2, q3, q4⟩
      · unfold G2; rw [r 19 (by decide), r 20 (by decide), r 21 (by decide), r 22 (by decide)]; exact h2
      · unfold G3; rw [r 24 (by decide), r 25 (by decide), r 26 (by decide), r 27 (by decide), r 28 (by decide), r 30 (by decide)]; exact h3
      · refine ⟨by rw [r 35 (by decide)]; exact h4.1, fun s s0 s1 => ?_, fun m m0 m1 => ?_⟩
        · rw [i 34] at s1
          obtain ⟨q1, q2, q3, q4⟩ := h4.2.1 s s0 s1
          have hne : zA σ 0 35 s ≠ n := fun e => by rw [e] at q2; omega
          rw [r 35 (by decide), i 17, b13, b14, r 15 (by decide), pu_ne hne, pu_ne hne]
          exact ⟨q1, q2, q3, q4⟩
        · rw [i 17] at m1
          rw [b13, b14, i 34]
          by_cases e : m = n
          · rw [e, pu_eq, pu_eq]; exact ⟨fun q => absurd q (by decide), fun _ => by omega⟩
          · rw [pu_ne e, pu_ne e]; exact h4.2.2 m m0 m1
      · unfold G5 hasUse; simp only [i, r 20 (by decide), r 24 (by decide), r 25 (by decide), r 19 (by decide)]; exact h5
      · intro hwr
        rw [i 18] at hwr
        refine ⟨by rw [i 31, i 34, r 28 (by decide)]; exact (h6 hwr).1, fun m m0 m1 => ?_⟩
        rw [i 17] at m1
        rw [b13, b14]
        by_cases e : m = n
        · rw [e, pu_eq, pu_eq]; exact fun _ => hw.2 hwr hs
        · rw [pu_ne e, pu_ne e]; exact (h6 hwr).2 m m0 m1
    refine s_piece hGt (by rw [i 33]; exact hs) (by rw [i 31, i 6]; exact hp9) (by decide) (fun _ _ => ⟨hn.1, hn.2.1⟩) (fun q => absurd q (by decide)) (by omega) (by decide) hp (fun q => absurd q (by decide)) (fun υ hE => ?_)
    have y := hE.2.2.1
    exact hQ υ hE.1 (hPR.tr hE.2.1) ((y.1 6 (by decide)).trans (i 6)) ((y.1 5 (by decide)).trans (i 5)) ((y.1 7 (by decide)).trans (i 7)) ((y.1 9 (by decide)).trans (i 9)) ((y.1 34 (by decide)).trans (i 34)) ((y.2 19 (by decide)).trans (r 19 (by decide))) ((y.1 23 (by decide)).trans (i 23)) (by have := hE.2.2.2.2; rw [i 31] at this; exact this)
  · exact s_wrongAt hL0 hp (fun w w0 w1 => hQ _ (GG_18 hG0 ⟨w0, w1⟩) (PR_18 w0) rfl rfl rfl rfl rfl rfl rfl (by show zI σ 0 31 ≤ zI σ 0 31 + 1; omega))
theorem s_open {σ : ZS} {n a p : Int} {Q : ZS → Prop} (hG : GG σ) (hn : 0 ≤ n ∧ n < 240 ∧ n < zI σ 0 17) (ha : 1 ≤ a ∧ a ≤ 16) (hp : 0 ≤ p ∧ p ≤ 480) (hsg : zI σ 0 34 < 80 ∧ 6 * (zI σ 0 34 + 1) ≤ zI σ 0 5) (hQ : ∀ τ : ZS, GG τ → PR σ τ → zI τ 0 6 = zI σ 0 6 → zI τ 0 31 = zI σ 0 31 → Q τ) : wpX11_open n a p (zsI σ 0 33 1) Q := by
  obtain ⟨hT, hL, hk, hn9, hw, h1, h2, h3, h4, h5, h6⟩ := hG
  have hL0 := hL
  obtain ⟨l1, l2, l3, l4, l5, l6, l7, l8, l9, l10, l11, l12, l13, l14, l15, l16, l17, l18, l19⟩ := hL
  have hso := h1 n hn.1 hn.2.1
  have b33 : PR σ (zsI σ 0 33 1) := ⟨fr.i (by decide), Int.le_refl _, Int.le_refl _, Int.le_refl _, fun _ _ _ => ⟨rfl, rfl⟩, fun h => h, Int.le_refl _, (by show zI σ 0 33 ≤ 1; omega)⟩
  have f30 : wpX11_open_30 p (zsI σ 0 33 1) Q := by
    unfold wpX11_open_30
    refine s_wrongAt ⟨l1, l2, l3, l4, l5, l6, l7, l8, l9, l10, (by decide : (0 : Int) ≤ 1 ∧ (1 : Int) ≤ 1), l12, l13, l14, l15, l16, l17, l18, l19⟩ hp (fun w w0 w1 => ?_)
    have nv : ¬ zI (zsI (zsI σ 0 33 1) 0 18 w) 0 18 < 0 := by show ¬ w < 0; omega
    refine hQ _ ⟨hT, ⟨l1, l2, l3, l4, l5, l6, l7, l8, l9, l10, (by decide : (0 : Int) ≤ 1 ∧ (1 : Int) ≤ 1), l12, (by show -1 ≤ w ∧ w ≤ 480; omega), l14, l15, l16, l17, l18, l19⟩, hk, hn9, ⟨fun q => absurd q nv, fun q => absurd q nv⟩, h1, h2, h3, h4, h5, fun q => absurd q nv⟩ (b33.tr (PR_18 w0)) rfl rfl
  have f36 : (zA σ 0 13 n = 0 ∨ zA σ 0 13 n = 1) → wpX11_open_36 n a (zsI σ 0 33 1) Q := by
    intro h01
    unfold wpX11_open_36 wpX11_open_89
    refine ⟨by omega, (show -2147483648 ≤ zA σ 0 13 n ∧ zA σ 0 13 n ≤ 2147483647 from by omega), fun nz => ?_, fun z => ?_⟩
    · have e1 : zA σ 0 13 n = 1 := by have nz' : ¬ zA σ 0 13 n = 0 := nz; omega
      have hseg := (h4.2.2 n hn.1 hn.2.2).1 e1
      refine ⟨by omega, hQ _ ⟨hT, ⟨l1, l2, l3, l4, l5, l6, l7, l8, l9, l10, (by decide : (0 : Int) ≤ 1 ∧ (1 : Int) ≤ 1), (by show -1 ≤ zA σ 0 14 n ∧ zA σ 0 14 n < zI σ 0 34; omega), l13, l14, l15, l16, l17, l18, l19⟩, hk, hn9, ⟨hw.1, fun _ _ => hseg.1⟩, h1, h2, h3, h4, h5, h6⟩ ⟨(fr.rf.ti (by decide)).ti (by decide), Int.le_refl _, Int.le_refl _, Int.le_refl _, fun _ _ _ => ⟨rfl, rfl⟩, fun h => h, Int.le_refl _, (by show zI σ 0 33 ≤ 1; omega)⟩ rfl rfl⟩
    · have z' : zA σ 0 13 n = 0 := z
      refine ⟨(show 0 ≤ zI σ 0 34 ∧ zI σ 0 34 < 80 from by omega), by omega, ?_⟩
      obtain ⟨τ, hτ⟩ : ∃ τ, τ = zsI (zsI (zsA (zsA (zsA (zsA (zsI σ 0 33 1) 0 13 n 1) 0 15 n a) 0 14 n (zI (zsI σ 0 33 1) 0 34)) 0 35 (zI (zsI σ 0 33 1) 0 34) n) 0 34 (zI (zsI σ 0 33 1) 0 34 + 1)) 0 32 (zA (zsI (zsA (zsA (zsA (zsA (zsI σ 0 33 1) 0 13 n 1) 0 15 n a) 0 14 n (zI (zsI σ 0 33 1) 0 34)) 0 35 (zI (zsI σ 0 33 1) 0 34) n) 0 34 (zI (zsI σ 0 33 1) 0 34 + 1)) 0 14 n) := ⟨_, rfl⟩
      rw [← hτ]
      have hf : fr [32, 33, 34] [13, 14, 15, 35] σ τ := by rw [hτ]; exact ((((((fr.rf.ti (by decide)).ta (by decide)).ta (by decide)).ta (by decide)).ta (by decide)).ti (by decide)).ti (by decide)
      have b13 : zA τ 0 13 = zu (zA σ 0 13) n 1 := by rw [hτ]; rfl
      have b14 : zA τ 0 14 = zu (zA σ 0 14) n (zI σ 0 34) := by rw [hτ]; rfl
      have b15 : zA τ 0 15 = zu (zA σ 0 15) n a := by rw [hτ]; rfl
      have b35 : zA τ 0 35 = zu (zA σ 0 35) (zI σ 0 34) n := by rw [hτ]; rfl
      have e33 : zI τ 0 33 = 1 := by rw [hτ]; rfl
      have e34 : zI τ 0 34 = zI σ 0 34 + 1 := by rw [hτ]; rfl
      have e32 : zI τ 0 32 = zI σ 0 34 := by rw [hτ]; exact pu_eq (h := zA σ 0 14)
      clear hτ
      have i : ∀ f : Nat, f ∉ ([32, 33, 34] : List Nat) → zI τ 0 f = zI σ 0 f := hf.1
      have r : ∀ f : Nat, f ∉ ([13, 14, 15, 35] : List Nat) → zA τ 0 f = zA σ 0 f := hf.2
      have hPR : PR σ τ := ⟨hf.up (by decide) (by decide), by rw [i 6 (by decide)]; omega, by rw [i 5 (by decide)]; omega, by rw [i 23 (by decide)]; omega, fun u _ _ => by rw [r 20 (by decide), r 19 (by decide)]; exact ⟨rfl, rfl⟩, by rw [i 18 (by decide)]; exact fun h => h, by rw [i 17 (by decide)]; omega, by rw [e33]; omega⟩
      refine hQ τ ⟨hT.fr hf (by decide) (by decide) (by decide), ?_, ?_, ?_, ?_, ?_, ?_, ?_, ?_, ?_, ?_⟩ hPR (i 6 (by decide)) (i 31 (by decide))
      · unfold GL
        rw [i 2 (by decide), i 6 (by decide), i 5 (by decide), i 7 (by decide), i 9 (by decide), i 10 (by decide), i 8 (by decide), i 17 (by decide), i 23 (by decide), i 31 (by decide), e34, e33, e32, i 18 (by decide), i 37 (by decide), i 38 (by decide), i 39 (by decide), i 41 (by decide), i 42 (by decide), r 19 (by decide)]
        exact ⟨l1, l2, l3, l4, l5, l6, l7, l8, l9, by omega, by decide, by omega, l13, l14, l15, l16, l17, l18, l19⟩
      · unfold Gk; rw [i 7 (by decide), i 6 (by decide), i 2 (by decide), i 5 (by decide), i 9 (by decide), r 1 (by decide)]; exact hk
      · unfold Gn; rw [i 7 (by decide), i 17 (by decide), i 5 (by decide)]; exact hn9
      · unfold Gw; rw [i 18 (by decide), i 17 (by decide), e33, e32]; exact ⟨hw.1, fun _ _ => l10.1⟩
      · intro m m0 m1
        obtain ⟨q1, q2, q3, q4⟩ := h1 m m0 m1
        rw [b13, b14, b15, r 12 (by decide)]
        by_cases e : m = n
        · rw [e, pu_eq, pu_eq, pu_eq]; rw [e] at q4; exact ⟨by decide, by omega, by omega, q4⟩
        · rw [pu_ne e, pu_ne e, pu_ne e]; exact ⟨q1, q2, q3, q4⟩
      · unfold G2; rw [r 19 (by decide), r 20 (by decide), r 21 (by decide), r 22 (by decide)]; exact h2
      · unfold G3; rw [r 24 (by decide), r 25 (by decide), r 26 (by decide), r 27 (by decide), r 28 (by decide), r 30 (by decide)]; exact h3
      · refine ⟨fun s s0 s1 => ?_, fun s s0 s1 => ?_, fun m m0 m1 => ?_⟩
        · rw [b35]
          by_cases e : s = zI σ 0 34
          · rw [e, pu_eq]; exact ⟨hn.1, hn.2.1⟩
          · rw [pu_ne e]; exact h4.1 s s0 s1
        · rw [e34] at s1
          rw [b35, i 17 (by decide), b13, b14, b15]
          by_cases e : s = zI σ 0 34
          · rw [e, pu_eq, pu_eq, pu_eq, pu_eq]; exact ⟨hn.2.2, rfl, rfl, ha.1⟩
          · obtain ⟨q1, q2, q3, q4⟩ := h4.2.1 s s0 (by omega)
            have hne : zA σ 0 35 s ≠ n := fun e => by rw [e] at q2; omega
            rw [pu_ne e, pu_ne hne, pu_ne hne, pu_ne hne]
            exact ⟨q1, q2, q3, q4⟩
        · rw [i 17 (by decide)] at m1
          rw [b13, b14, e34]
          by_cases e : m = n
          · rw [e, pu_eq, pu_eq]; exact ⟨fun _ => by omega, fun q => absurd q (by decide)⟩
          · rw [pu_ne e, pu_ne e]
            have q := h4.2.2 m m0 m1
            exact ⟨fun k => by have := q.1 k; omega, fun k => by have := q.2 k; omega⟩
      · unfold G5 hasUse
        rw [i 23 (by decide), i 17 (by decide), i 31 (by decide), r 20 (by decide), r 24 (by decide), r 25 (by decide), r 19 (by decide)]; exact h5
      · intro hwr
        rw [i 18 (by decide)] at hwr
        refine ⟨fun q q0 q1 => ?_, fun m m0 m1 => ?_⟩
        · rw [i 31 (by decide)] at q1
          rw [r 28 (by decide), e34]
          have := (h6 hwr).1 q q0 q1
          omega
        · rw [i 17 (by decide)] at m1
          rw [b13, b14]
          by_cases e : m = n
          · rw [e, pu_eq, pu_eq]; exact fun q => absurd q (by decide)
          · rw [pu_ne e, pu_ne e]; exact (h6 hwr).2 m m0 m1
  unfold wpX11_open
  refine ⟨by omega, (show -2147483648 ≤ zA σ 0 13 n ∧ zA σ 0 13 n ≤ 2147483647 from by omega), fun _ => f30, fun n1 => ⟨fun n2 => f36 ?_, fun e1 => ⟨(show -2147483648 ≤ zA σ 0 15 n ∧ zA σ 0 15 n ≤ 2147483647 from by omega), by omega, fun _ => f36 (Or.inr e1), fun _ => f30⟩⟩⟩
  have n1' : ¬ 1 < zA σ 0 13 n := n1
  have n2' : ¬ zA σ 0 13 n = 1 := n2
  omega
