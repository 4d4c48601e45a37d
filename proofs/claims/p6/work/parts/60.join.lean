/-! P: labels, segments, items, the parse -/
theorem s_label {σ : ZS} {n p : Int} {Q : ZS → Prop} (hG : GG σ) (hs : zI σ 0 33 = 1) (hp9 : zI σ 0 31 + 1 ≤ 2 * zI σ 0 6 + 8) (hn : 0 ≤ n ∧ n < 240 ∧ n < zI σ 0 17) (hp : 0 ≤ p ∧ p ≤ 480) (hQ : ∀ τ : ZS, GG τ → PR σ τ → zI τ 0 6 = zI σ 0 6 → zI τ 0 5 = zI σ 0 5 → zI τ 0 7 = zI σ 0 7 → zI τ 0 9 = zI σ 0 9 → zI τ 0 34 = zI σ 0 34 → zA τ 0 19 = zA σ 0 19 → zI τ 0 23 = zI σ 0 23 → zI τ 0 31 ≤ zI σ 0 31 + 1 → Q τ) : wpX11_label n p σ Q := by
  have hG0 := hG
  obtain ⟨hT, hL, hk, hn9, hw, h1, h2, h3, h4, h5, h6⟩ := hG
  have hL0 := hL
  obtain ⟨l1, l2, l3, l4, l5, l6, l7, l8, l9, l10, l11, l12, l13, l14, l15, l16, l17, l18, l19⟩ := hL
  have hso := h1 n hn.1 hn.2.1
  unfold wpX11_label
  refine ⟨by omega, by omega, fun z => ?_, fun z => ?_⟩
  · obtain ⟨τ, hτ⟩ : ∃ τ, τ = zsA (zsA σ 0 13 n 2) 0 14 n (zI σ 0 32) := ⟨_, rfl⟩
    rw [← hτ]
    have hf : fr [] [13, 14] σ τ := by rw [hτ]; exact (fr.rf.ta (by decide)).ta (by decide)
    have b13 : zA τ 0 13 = zu (zA σ 0 13) n 2 := by rw [hτ]; rfl
    have b14 : zA τ 0 14 = zu (zA σ 0 14) n (zI σ 0 32) := by rw [hτ]; rfl
    clear hτ
    have i : ∀ f : Nat, zI τ 0 f = zI σ 0 f := fun f => hf.1 f (by simp)
    have r : ∀ f : Nat, f ∉ ([13, 14] : List Nat) → zA τ 0 f = zA σ 0 f := hf.2
    have hPR : PR σ τ := ⟨hf.up (by decide) (by decide), by rw [i 6]; omega, by rw [i 5]; omega, by rw [i 23]; omega, fun u _ _ => by rw [r 20 (by decide), r 19 (by decide)]; exact ⟨rfl, rfl⟩, by rw [i 18]; exact fun h => h, by rw [i 17]; omega, by rw [i 33]; omega⟩
    have hGt : GG τ := by
      refine ⟨hT.fr hf (by decide) (by decide) (by decide), ?_, ?_, ?_, ?_, ?_, ?_, ?_, ?_, ?_, ?_⟩
      · unfold GL; simp only [i, r 19 (by decide)]; exact hL0
      · unfold Gk; simp only [i, r 1 (by decide)]; exact hk
      · unfold Gn; simp only [i]; exact hn9
      · unfold Gw; simp only [i]; exact hw
      · intro m m0 m1
        obtain ⟨q1, q2, q3, q4⟩ := h1 m m0 m1
        rw [b13, b14, r 15 (by decide), r 12 (by decide)]
        by_cases e : m = n
        · rw [e, pu_eq, pu_eq]; rw [e] at q3 q4; exact ⟨by decide, by omega, q3, q4⟩
        · rw [pu_ne e, pu_ne e]; exact ⟨q1, q2, q3, q4⟩
      · unfold G2; rw [r 19 (by decide), r 20 (by decide), r 21 (by decide), r 22 (by decide)]; exact h2
      · unfold G3; rw [r 24 (by decide), r 25 (by decide), r 26 (by decide), r 27 (by decide), r 28 (by decide), r 30 (by decide)]; exact h3
      · refine ⟨by rw [r 35 (by decide)]; exact h4.1, fun s s0 s1 => ?_, fun m m0 m1 => ?_⟩
        · rw [i 34] at s1
          obtain ⟨q1, q2, q3, q4⟩ := h4.2.1 s s0 s1
          have hne : zA σ 0 35 s ≠ n := fun e => by rw [e] at q2; omega
          rw [r 35 (by decide), i 17, b13, b14, r 15 (by decide), pu_ne hne, pu_ne hne]
          exact ⟨q1, q2, q3, q4⟩
        · rw [i 17] at m1
          rw [b13, b14, i 34]
          by_cases e : m = n
          · rw [e, pu_eq, pu_eq]; exact ⟨fun q => absurd q (by decide), fun _ => by omega⟩
          · rw [pu_ne e, pu_ne e]; exact h4.2.2 m m0 m1
      · unfold G5 hasUse; simp only [i, r 20 (by decide), r 24 (by decide), r 25 (by decide), r 19 (by decide)]; exact h5
      · intro hwr
        rw [i 18] at hwr
        refine ⟨by rw [i 31, i 34, r 28 (by decide)]; exact (h6 hwr).1, fun m m0 m1 => ?_⟩
        rw [i 17] at m1
        rw [b13, b14]
        by_cases e : m = n
        · rw [e, pu_eq, pu_eq]; exact fun _ => hw.2 hwr hs
        · rw [pu_ne e, pu_ne e]; exact (h6 hwr).2 m m0 m1
    refine s_piece hGt (by rw [i 33]; exact hs) (by rw [i 31, i 6]; exact hp9) (by decide) (fun _ _ => ⟨hn.1, hn.2.1⟩) (fun q => absurd q (by decide)) (by omega) (by decide) hp (fun q => absurd q (by decide)) (fun υ hE => ?_)
    have y := hE.2.2.1
    exact hQ υ hE.1 (hPR.tr hE.2.1) ((y.1 6 (by decide)).trans (i 6)) ((y.1 5 (by decide)).trans (i 5)) ((y.1 7 (by decide)).trans (i 7)) ((y.1 9 (by decide)).trans (i 9)) ((y.1 34 (by decide)).trans (i 34)) ((y.2 19 (by decide)).trans (r 19 (by decide))) ((y.1 23 (by decide)).trans (i 23)) (by have := hE.2.2.2.2; rw [i 31] at this; exact this)
  · exact s_wrongAt hL0 hp (fun w w0 w1 => hQ _ (GG_18 hG0 ⟨w0, w1⟩) (PR_18 w0) rfl rfl rfl rfl rfl rfl rfl (by show zI σ 0 31 ≤ zI σ 0 31 + 1; omega))
theorem s_open {σ : ZS} {n a p : Int} {Q : ZS → Prop} (hG : GG σ) (hn : 0 ≤ n ∧ n < 240 ∧ n < zI σ 0 17) (ha : 1 ≤ a ∧ a ≤ 16) (hp : 0 ≤ p ∧ p ≤ 480) (hsg : zI σ 0 34 < 80 ∧ 6 * (zI σ 0 34 + 1) ≤ zI σ 0 5) (hQ : ∀ τ : ZS, GG τ → PR σ τ → zI τ 0 6 = zI σ 0 6 → zI τ 0 31 = zI σ 0 31 → Q τ) : wpX11_open n a p (zsI σ 0 33 1) Q := by
  obtain ⟨hT, hL, hk, hn9, hw, h1, h2, h3, h4, h5, h6⟩ := hG
  have hL0 := hL
  obtain ⟨l1, l2, l3, l4, l5, l6, l7, l8, l9, l10, l11, l12, l13, l14, l15, l16, l17, l18, l19⟩ := hL
  have hso := h1 n hn.1 hn.2.1
  have b33 : PR σ (zsI σ 0 33 1) := ⟨fr.i (by decide), Int.le_refl _, Int.le_refl _, Int.le_refl _, fun _ _ _ => ⟨rfl, rfl⟩, fun h => h, Int.le_refl _, (by show zI σ 0 33 ≤ 1; omega)⟩
  have f30 : wpX11_open_30 p (zsI σ 0 33 1) Q := by
    unfold wpX11_open_30
    refine s_wrongAt ⟨l1, l2, l3, l4, l5, l6, l7, l8, l9, l10, (by decide : (0 : Int) ≤ 1 ∧ (1 : Int) ≤ 1), l12, l13, l14, l15, l16, l17, l18, l19⟩ hp (fun w w0 w1 => ?_)
    have nv : ¬ zI (zsI (zsI σ 0 33 1) 0 18 w) 0 18 < 0 := by show ¬ w < 0; omega
    refine hQ _ ⟨hT, ⟨l1, l2, l3, l4, l5, l6, l7, l8, l9, l10, (by decide : (0 : Int) ≤ 1 ∧ (1 : Int) ≤ 1), l12, (by show -1 ≤ w ∧ w ≤ 480; omega), l14, l15, l16, l17, l18, l19⟩, hk, hn9, ⟨fun q => absurd q nv, fun q => absurd q nv⟩, h1, h2, h3, h4, h5, fun q => absurd q nv⟩ (b33.tr (PR_18 w0)) rfl rfl
  have f36 : (zA σ 0 13 n = 0 ∨ zA σ 0 13 n = 1) → wpX11_open_36 n a (zsI σ 0 33 1) Q := by
    intro h01
    unfold wpX11_open_36 wpX11_open_89
    refine ⟨by omega, (show -2147483648 ≤ zA σ 0 13 n ∧ zA σ 0 13 n ≤ 2147483647 from by omega), fun nz => ?_, fun z => ?_⟩
    · have e1 : zA σ 0 13 n = 1 := by have nz' : ¬ zA σ 0 13 n = 0 := nz; omega
      have hseg := (h4.2.2 n hn.1 hn.2.2).1 e1
      refine ⟨by omega, hQ _ ⟨hT, ⟨l1, l2, l3, l4, l5, l6, l7, l8, l9, l10, (by decide : (0 : Int) ≤ 1 ∧ (1 : Int) ≤ 1), (by show -1 ≤ zA σ 0 14 n ∧ zA σ 0 14 n < zI σ 0 34; omega), l13, l14, l15, l16, l17, l18, l19⟩, hk, hn9, ⟨hw.1, fun _ _ => hseg.1⟩, h1, h2, h3, h4, h5, h6⟩ ⟨(fr.rf.ti (by decide)).ti (by decide), Int.le_refl _, Int.le_refl _, Int.le_refl _, fun _ _ _ => ⟨rfl, rfl⟩, fun h => h, Int.le_refl _, (by show zI σ 0 33 ≤ 1; omega)⟩ rfl rfl⟩
    · have z' : zA σ 0 13 n = 0 := z
      refine ⟨(show 0 ≤ zI σ 0 34 ∧ zI σ 0 34 < 80 from by omega), by omega, ?_⟩
      obtain ⟨τ, hτ⟩ : ∃ τ, τ = zsI (zsI (zsA (zsA (zsA (zsA (zsI σ 0 33 1) 0 13 n 1) 0 15 n a) 0 14 n (zI (zsI σ 0 33 1) 0 34)) 0 35 (zI (zsI σ 0 33 1) 0 34) n) 0 34 (zI (zsI σ 0 33 1) 0 34 + 1)) 0 32 (zA (zsI (zsA (zsA (zsA (zsA (zsI σ 0 33 1) 0 13 n 1) 0 15 n a) 0 14 n (zI (zsI σ 0 33 1) 0 34)) 0 35 (zI (zsI σ 0 33 1) 0 34) n) 0 34 (zI (zsI σ 0 33 1) 0 34 + 1)) 0 14 n) := ⟨_, rfl⟩
      rw [← hτ]
      have hf : fr [32, 33, 34] [13, 14, 15, 35] σ τ := by rw [hτ]; exact ((((((fr.rf.ti (by decide)).ta (by decide)).ta (by decide)).ta (by decide)).ta (by decide)).ti (by decide)).ti (by decide)
      have b13 : zA τ 0 13 = zu (zA σ 0 13) n 1 := by rw [hτ]; rfl
      have b14 : zA τ 0 14 = zu (zA σ 0 14) n (zI σ 0 34) := by rw [hτ]; rfl
      have b15 : zA τ 0 15 = zu (zA σ 0 15) n a := by rw [hτ]; rfl
      have b35 : zA τ 0 35 = zu (zA σ 0 35) (zI σ 0 34) n := by rw [hτ]; rfl
      have e33 : zI τ 0 33 = 1 := by rw [hτ]; rfl
      have e34 : zI τ 0 34 = zI σ 0 34 + 1 := by rw [hτ]; rfl
      have e32 : zI τ 0 32 = zI σ 0 34 := by rw [hτ]; exact pu_eq (h := zA σ 0 14)
      clear hτ
      have i : ∀ f : Nat, f ∉ ([32, 33, 34] : List Nat) → zI τ 0 f = zI σ 0 f := hf.1
      have r : ∀ f : Nat, f ∉ ([13, 14, 15, 35] : List Nat) → zA τ 0 f = zA σ 0 f := hf.2
      have hPR : PR σ τ := ⟨hf.up (by decide) (by decide), by rw [i 6 (by decide)]; omega, by rw [i 5 (by decide)]; omega, by rw [i 23 (by decide)]; omega, fun u _ _ => by rw [r 20 (by decide), r 19 (by decide)]; exact ⟨rfl, rfl⟩, by rw [i 18 (by decide)]; exact fun h => h, by rw [i 17 (by decide)]; omega, by rw [e33]; omega⟩
      refine hQ τ ⟨hT.fr hf (by decide) (by decide) (by decide), ?_, ?_, ?_, ?_, ?_, ?_, ?_, ?_, ?_, ?_⟩ hPR (i 6 (by decide)) (i 31 (by decide))
      · unfold GL
        rw [i 2 (by decide), i 6 (by decide), i 5 (by decide), i 7 (by decide), i 9 (by decide), i 10 (by decide), i 8 (by decide), i 17 (by decide), i 23 (by decide), i 31 (by decide), e34, e33, e32, i 18 (by decide), i 37 (by decide), i 38 (by decide), i 39 (by decide), i 41 (by decide), i 42 (by decide), r 19 (by decide)]
        exact ⟨l1, l2, l3, l4, l5, l6, l7, l8, l9, by omega, by decide, by omega, l13, l14, l15, l16, l17, l18, l19⟩
      · unfold Gk; rw [i 7 (by decide), i 6 (by decide), i 2 (by decide), i 5 (by decide), i 9 (by decide), r 1 (by decide)]; exact hk
      · unfold Gn; rw [i 7 (by decide), i 17 (by decide), i 5 (by decide)]; exact hn9
      · unfold Gw; rw [i 18 (by decide), i 17 (by decide), e33, e32]; exact ⟨hw.1, fun _ _ => l10.1⟩
      · intro m m0 m1
        obtain ⟨q1, q2, q3, q4⟩ := h1 m m0 m1
        rw [b13, b14, b15, r 12 (by decide)]
        by_cases e : m = n
        · rw [e, pu_eq, pu_eq, pu_eq]; rw [e] at q4; exact ⟨by decide, by omega, by omega, q4⟩
        · rw [pu_ne e, pu_ne e, pu_ne e]; exact ⟨q1, q2, q3, q4⟩
      · unfold G2; rw [r 19 (by decide), r 20 (by decide), r 21 (by decide), r 22 (by decide)]; exact h2
      · unfold G3; rw [r 24 (by decide), r 25 (by decide), r 26 (by decide), r 27 (by decide), r 28 (by decide), r 30 (by decide)]; exact h3
      · refine ⟨fun s s0 s1 => ?_, fun s s0 s1 => ?_, fun m m0 m1 => ?_⟩
        · rw [b35]
          by_cases e : s = zI σ 0 34
          · rw [e, pu_eq]; exact ⟨hn.1, hn.2.1⟩
          · rw [pu_ne e]; exact h4.1 s s0 s1
        · rw [e34] at s1
          rw [b35, i 17 (by decide), b13, b14, b15]
          by_cases e : s = zI σ 0 34
          · rw [e, pu_eq, pu_eq, pu_eq, pu_eq]; exact ⟨hn.2.2, rfl, rfl, ha.1⟩
          · obtain ⟨q1, q2, q3, q4⟩ := h4.2.1 s s0 (by omega)
            have hne : zA σ 0 35 s ≠ n := fun e => by rw [e] at q2; omega
            rw [pu_ne e, pu_ne hne, pu_ne hne, pu_ne hne]
            exact ⟨q1, q2, q3, q4⟩
        · rw [i 17 (by decide)] at m1
          rw [b13, b14, e34]
          by_cases e : m = n
          · rw [e, pu_eq, pu_eq]; exact ⟨fun _ => by omega, fun q => absurd q (by decide)⟩
          · rw [pu_ne e, pu_ne e]
            have q := h4.2.2 m m0 m1
            exact ⟨fun k => by have := q.1 k; omega, fun k => by have := q.2 k; omega⟩
      · unfold G5 hasUse
        rw [i 23 (by decide), i 17 (by decide), i 31 (by decide), r 20 (by decide), r 24 (by decide), r 25 (by decide), r 19 (by decide)]; exact h5
      · intro hwr
        rw [i 18 (by decide)] at hwr
        refine ⟨fun q q0 q1 => ?_, fun m m0 m1 => ?_⟩
        · rw [i 31 (by decide)] at q1
          rw [r 28 (by decide), e34]
          have := (h6 hwr).1 q q0 q1
          omega
        · rw [i 17 (by decide)] at m1
          rw [b13, b14]
          by_cases e : m = n
          · rw [e, pu_eq, pu_eq]; exact fun q => absurd q (by decide)
          · rw [pu_ne e, pu_ne e]; exact (h6 hwr).2 m m0 m1
  unfold wpX11_open
  refine ⟨by omega, (show -2147483648 ≤ zA σ 0 13 n ∧ zA σ 0 13 n ≤ 2147483647 from by omega), fun _ => f30, fun n1 => ⟨fun n2 => f36 ?_, fun e1 => ⟨(show -2147483648 ≤ zA σ 0 15 n ∧ zA σ 0 15 n ≤ 2147483647 from by omega), by omega, fun _ => f36 (Or.inr e1), fun _ => f30⟩⟩⟩
  have n1' : ¬ 1 < zA σ 0 13 n := n1
  have n2' : ¬ zA σ 0 13 n = 1 := n2
  omega
/-! P: directives, items, the whole parse -/
theorem GG_ext {σ : ZS} {n : Int} (hG : GG σ) (hn : 0 ≤ n ∧ n < 240 ∧ n < zI σ 0 17) (hz : zA σ 0 13 n = 0) : GG (zsA σ 0 13 n 3) := by
  obtain ⟨hT, hL, hk, hn9, hw, h1, h2, h3, h4, h5, h6⟩ := hG
  have b13 : zA (zsA σ 0 13 n 3) 0 13 = zu (zA σ 0 13) n 3 := rfl
  refine ⟨hT, hL, hk, hn9, hw, ?_, h2, h3, ?_, h5, ?_⟩
  · intro m m0 m1
    obtain ⟨q1, q2, q3, q4⟩ := h1 m m0 m1
    refine ⟨?_, q2, q3, q4⟩
    rw [b13]
    by_cases e : m = n
    · rw [e, pu_eq]; decide
    · rw [pu_ne e]; exact q1
  · refine ⟨h4.1, fun s s0 s1 => ?_, fun m m0 m1 => ?_⟩
    · obtain ⟨q1, q2, q3, q4⟩ := h4.2.1 s s0 s1
      have hne : zA σ 0 35 s ≠ n := fun e => by rw [e] at q2; omega
      refine ⟨q1, ?_, q3, q4⟩
      show zA (zsA σ 0 13 n 3) 0 13 (zA σ 0 35 s) = 1
      rw [b13, pu_ne hne]; exact q2
    · rw [b13]
      by_cases e : m = n
      · rw [e, pu_eq]; exact ⟨fun q => absurd q (by decide), fun q => absurd q (by decide)⟩
      · rw [pu_ne e]; exact h4.2.2 m m0 m1
  · intro hwr
    refine ⟨(h6 hwr).1, fun m m0 m1 => ?_⟩
    rw [b13]
    by_cases e : m = n
    · rw [e, pu_eq]; exact fun q => absurd q (by decide)
    · rw [pu_ne e]; exact (h6 hwr).2 m m0 m1
theorem s_directive {σ : ZS} {Q : Int → ZS → Prop} (hG : GG σ) (ht : zI σ 0 7 = 1) (hc : 12 ≤ zI σ 0 9 ∧ zI σ 0 9 ≤ 17) (hs : 14 < zI σ 0 9 → zI σ 0 33 = 1) (hp : zI σ 0 31 ≤ 2 * zI σ 0 6) (h6 : 6 * zI σ 0 34 ≤ zI σ 0 6) (h7 : 7 * cntP (zA σ 0 19) (zI σ 0 23).toNat ≤ zI σ 0 6) (hQ : ∀ (r : Int) (τ : ZS), Stm σ r τ → Q r τ) : wpX11_directive σ Q := by
  have hL := hG.2.1
  obtain ⟨l1, l2, l3, l4, l5, l6, l7, l8, l9, l10, -⟩ := hL
  have hlt := hG.2.2.1.2.1 (by omega)
  have h12 := hG.2.2.1.2.2.1 ht
  have h13 := hG.2.2.1.2.2.2.1 ht
  unfold wpX11_directive
  refine s_nextG hG (fun a ga pa fa _ a5 asep aF => ?_)
  have a31 := fa.1 31 (by decide); have a34 := fa.1 34 (by decide); have a23 := fa.1 23 (by decide); have a19 := fa.2 19 (by decide); have a6 := pa.2.1
  have hLa := ga.2.1
  obtain ⟨k1, k2, k3, k4, k5, k6, k7, k8, k9, k10, -⟩ := hLa
  have flt : ∀ τ : ZS, GG τ → PR σ τ → zI τ 0 31 ≤ 2 * zI τ 0 6 → wpX11_fault τ (fun x1 σ2 => (0 ≤ x1 ∧ x1 ≤ 1) ∧ Q x1 σ2) := fun τ g p h => s_fault ⟨by decide, hQ 0 _ ⟨GG_34 g, p.tr PR_fault, Or.inl rfl, h⟩⟩
  refine ⟨by omega, fun c15 => s_isName ga.2.1 (fun t1 _ => ⟨by decide, fun _ => ?_, fun q => absurd q (by decide)⟩) ⟨by decide, fun q => absurd rfl q, fun _ => flt a ga pa (by omega)⟩, fun c15 => s_data ga aF (pa.seen ga (hs (by omega))) (by omega) (by omega) (fun r τ h => ⟨by have := h.2.2.1; omega, hQ r τ ⟨h.1, pa.tr h.2.1, h.2.2.1, h.2.2.2⟩⟩)⟩
  refine s_name ga t1 aF (fun n b n0 n1 n2 gb pb fb => ?_)
  have b5 := fb.1 5 (by decide); have b6 := fb.1 6 (by decide); have b7 := fb.1 7 (by decide); have b31 := fb.1 31 (by decide); have b34 := fb.1 34 (by decide); have b23 := fb.1 23 (by decide); have b19 := fb.2 19 (by decide)
  refine s_nextG gb (fun d gd pd fd _ d5 dsep dF => ?_)
  have d31 := fd.1 31 (by decide); have d34 := fd.1 34 (by decide); have d23 := fd.1 23 (by decide); have d19 := fd.2 19 (by decide); have d6 := pd.2.1; have d17 := fd.1 17 (by decide)
  have hLd := gd.2.1
  obtain ⟨m1, m2, m3, m4, m5, m6, m7, m8, -⟩ := hLd
  have sepA := asep ht (Or.inl t1)
  have alt := ga.2.2.1.2.1 (by omega)
  have fF := aF t1
  -- behind the use
  have f90 : ∀ τ : ZS, GG τ → PR σ τ → zI τ 0 6 = zI d 0 6 → zI τ 0 5 = zI d 0 5 → zI τ 0 7 = zI d 0 7 → zI τ 0 10 = zI d 0 10 → zI τ 0 31 = zI d 0 31 → zI τ 0 34 = zI d 0 34 → n < zI τ 0 17 → wpX11_directive_90 (zI σ 0 9) n (zI b 0 6) τ Q := by
    intro τ g p e6 e5 e7 e10 e31 e34 hn
    have done : Q 1 τ := hQ 1 τ ⟨g, p, Or.inr rfl, by omega⟩
    have fl : wpX11_directive_148 τ Q := by unfold wpX11_directive_148; exact flt τ g p (by omega)
    have f153 : zI σ 0 9 = 12 → zI τ 0 7 = 2 → (1 ≤ zI τ 0 10 ∧ zI τ 0 10 ≤ 16) → wpX11_directive_153 n (zI b 0 6) τ Q := by
      intro c12 t2 hal
      have q3 := h12 c12
      have sepD := dsep (by omega) (Or.inr (by omega))
      unfold wpX11_directive_153
      refine s_open g ⟨n0, n1, hn⟩ hal (by omega) (by omega) (fun υ gu pu u6 u31 => ?_)
      refine s_nextG gu (fun ω gw pw fw _ w5 _ _ => ?_)
      have w31 := fw.1 31 (by decide); have w6 := pw.2.1
      exact hQ 1 ω ⟨gw, (p.tr pu).tr pw, Or.inr rfl, by omega⟩
    unfold wpX11_directive_90
    exact ⟨by omega, fun c12 => ⟨by omega, fun _ => fl, fun t2 => ⟨by omega, fun q => f153 c12 t2 (by omega), fun _ => ⟨fun q => f153 c12 t2 (by omega), fun _ => ⟨fun q => f153 c12 t2 (by omega), fun _ => ⟨fun q => f153 c12 t2 (by omega), fun _ => ⟨fun q => f153 c12 t2 (by omega), fun _ => fl⟩⟩⟩⟩⟩⟩, fun _ => done⟩
  have pp : PR σ d := (pa.tr pb).tr pd
  have f60 : ∀ τ : ZS, GG τ → PR σ τ → zI τ 0 6 = zI d 0 6 → zI τ 0 5 = zI d 0 5 → zI τ 0 7 = zI d 0 7 → zI τ 0 10 = zI d 0 10 → zI τ 0 31 = zI d 0 31 → zI τ 0 34 = zI d 0 34 → n < zI τ 0 17 → wpX11_directive_60 (zI σ 0 9) n (zI b 0 6) τ Q := by
    intro τ g p e6 e5 e7 e10 e31 e34 hn
    have hso := (g.2.2.2.2.2.1 n n0 n1).1
    unfold wpX11_directive_60
    refine ⟨by omega, fun _ => f90 τ g p e6 e5 e7 e10 e31 e34 hn, fun _ => ⟨by omega, by omega, fun z => ?_, fun _ => ?_⟩⟩
    · refine f90 _ (GG_ext g ⟨n0, n1, hn⟩ z) (p.tr ⟨fr.a (by decide), Int.le_refl _, Int.le_refl _, Int.le_refl _, fun _ _ _ => ⟨rfl, rfl⟩, fun h => h, Int.le_refl _, Int.le_refl _⟩) e6 e5 e7 e10 e31 e34 hn
    · exact s_wrongAt g.2.1 (by omega) (fun w w0 w1 => f90 _ (GG_18 g ⟨w0, w1⟩) (p.tr (PR_18 w0)) e6 e5 e7 e10 e31 e34 hn)
  refine ⟨fun _ => f60 d gd pp rfl rfl rfl rfl rfl rfl (by omega), fun c13 => ?_⟩
  have q6 := h13 c13
  refine s_use gd (by decide) ⟨n0, n1, by omega⟩ (by omega) (by omega) (fun _ => ?_) (fun υ gu pu fu _ _ => ?_)
  · rw [d19, d23, b19, b23, a19, a23]
    omega
  · exact f60 υ gu (pp.tr pu) (fu.1 6 (by decide)) (fu.1 5 (by decide)) (fu.1 7 (by decide)) (fu.1 10 (by decide)) (fu.1 31 (by decide)) (fu.1 34 (by decide)) (by rw [fu.1 17 (by decide)]; omega)
/-- between two items -/
def Itm (σ : ZS) : Prop := GG σ ∧ Fresh σ ∧ zI σ 0 31 ≤ 2 * zI σ 0 6 ∧ 6 * zI σ 0 34 ≤ zI σ 0 6 ∧ 7 * cntP (zA σ 0 19) (zI σ 0 23).toNat ≤ zI σ 0 6
def ItP (σ : ZS) (r : Int) (τ : ZS) : Prop := PR σ τ ∧ ((r = 0 ∧ GG τ) ∨ (r = 1 ∧ Itm τ ∧ zI σ 0 6 + 1 ≤ zI τ 0 6))
theorem s_item {σ : ZS} {Q : Int → ZS → Prop} (hI : Itm σ) (hQ : ∀ (r : Int) (τ : ZS), ItP σ r τ → Q r τ) : wpX11_item σ Q := by
  obtain ⟨hG, hF, hp, h6, h7⟩ := hI
  have flt : ∀ τ : ZS, GG τ → PR σ τ → wpX11_fault τ (fun x1 σ2 => (0 ≤ x1 ∧ x1 ≤ 1) ∧ Q x1 σ2) := fun τ g p => s_fault ⟨by decide, hQ 0 _ ⟨p.tr PR_fault, Or.inl ⟨rfl, GG_34 g⟩⟩⟩
  have f116 : ∀ τ : ZS, GG τ → PR σ τ → zI τ 0 31 ≤ 2 * zI τ 0 6 → wpX11_item_116 τ Q := by
    intro τ g p q31
    have hL := g.2.1
    obtain ⟨l1, l2, l3, l4, l5, l6, l7, l8, l9, l10, l11, l12, l13, l14, l15, l16, l17, l18, l19⟩ := hL
    have p6 := p.2.1
    unfold wpX11_item_116
    refine s_take g (by decide) (fun υ gu pu fu s5 s6 fs => ⟨by decide, hQ 1 υ ⟨p.tr pu, Or.inr ⟨rfl, ⟨gu, fs, ?_, ?_, ?_⟩, by omega⟩⟩⟩) ⟨by decide, hQ 0 _ ⟨p.tr PR_fault, Or.inl ⟨rfl, GG_34 g⟩⟩⟩
    · rw [fu.1 31 (by decide)]; omega
    · rw [fu.1 34 (by decide)]; omega
    · rw [fu.2 19 (by decide), fu.1 23 (by decide)]; omega
  have f50 : ∀ τ : ZS, GG τ → PR σ τ → zI τ 0 31 ≤ 2 * zI τ 0 6 → 6 * zI τ 0 34 ≤ zI τ 0 6 → 7 * cntP (zA τ 0 19) (zI τ 0 23).toNat ≤ zI τ 0 6 → wpX11_item_50 τ Q := by
    intro τ g p q31 q34 q7
    have hL := g.2.1
    obtain ⟨l1, l2, l3, l4, l5, l6, l7, l8, l9, l10, l11, -⟩ := hL
    have back : ∀ (r : Int) (υ : ZS), Stm τ r υ → (-2147483648 ≤ r ∧ r ≤ 2147483647) ∧ (¬ r = 0 → wpX11_item_116 υ Q) ∧ (r = 0 → wpX11_item_114 υ Q) := by
      intro r υ h
      obtain ⟨gu, pu, hr, u31⟩ := h
      unfold wpX11_item_114
      exact ⟨by omega, fun _ => f116 υ gu (p.tr pu) u31, fun _ => hQ 0 υ ⟨p.tr pu, Or.inl ⟨rfl, gu⟩⟩⟩
    have f88 : zI τ 0 7 = 1 → 12 ≤ zI τ 0 9 → (14 < zI τ 0 9 → zI τ 0 33 = 1) → wpX11_item_88 τ Q := by
      intro t c hs
      unfold wpX11_item_88
      exact ⟨by omega, fun c17 => s_instruction g t c17 (hs (by omega)) q31 back, fun c17 => s_directive g t (by omega) hs q31 q34 q7 back⟩
    unfold wpX11_item_50
    exact ⟨by omega, fun _ => f116 τ g p q31, fun t => ⟨by omega, fun _ => f116 τ g p q31, fun c => ⟨by omega, fun s1 => f88 t (by omega) (fun _ => by omega), fun s0 => ⟨fun c14 => f88 t (by omega) (fun q => by omega), fun _ => flt τ g p⟩⟩⟩⟩
  unfold wpX11_item
  refine s_isName hG.2.1 (fun t _ => ⟨by decide, fun q => absurd q (by decide), fun _ => ?_⟩) ⟨by decide, fun _ => f50 σ hG PR.rf hp h6 h7, fun q => absurd rfl q⟩
  have hL := hG.2.1
  obtain ⟨l1, l2, l3, l4, l5, l6, l7, l8, l9, l10, l11, -⟩ := hL
  refine ⟨by omega, fun s1 => ?_, fun _ => flt σ hG PR.rf⟩
  refine s_name hG t hF (fun n b n0 n1 n2 gb pb fb => ?_)
  have b6 := fb.1 6 (by decide); have b31 := fb.1 31 (by decide); have b34 := fb.1 34 (by decide); have b23 := fb.1 23 (by decide); have b19 := fb.2 19 (by decide)
  have hLb := gb.2.1
  obtain ⟨j1, j2, -⟩ := hLb
  refine s_nextG gb (fun d gd pd fd _ d5 dsep dF => ?_)
  have d31 := fd.1 31 (by decide); have d34 := fd.1 34 (by decide); have d23 := fd.1 23 (by decide); have d19 := fd.2 19 (by decide); have d6 := pd.2.1; have d17 := fd.1 17 (by decide)
  refine s_take gd (by decide) (fun e ge pe fe e5 e6 eF => ⟨by decide, fun _ => ?_, fun q => absurd q (by decide)⟩) ⟨by decide, fun q => absurd rfl q, fun _ => hQ 0 _ ⟨(pb.tr pd).tr PR_fault, Or.inl ⟨rfl, GG_34 gd⟩⟩⟩
  have e31 := fe.1 31 (by decide); have e34 := fe.1 34 (by decide); have e23 := fe.1 23 (by decide); have e19 := fe.2 19 (by decide); have e17 := fe.1 17 (by decide)
  have pp : PR σ e := (pb.tr pd).tr pe
  refine s_label ge (pp.seen ge (by omega)) (by omega) ⟨n0, n1, by omega⟩ (by omega) (fun υ gu pu u6 u5 u7 u9 u34 u19 u23 u31 => ?_)
  refine f50 υ gu (pp.tr pu) (by omega) (by omega) ?_
  rw [u19, u23, u6, e19, e23, d19, d23, b19, b23]
  omega
/-! P: the parse as a whole -/
/-- what the parse finds -/
def PA0 (σ : ZS) : Prop := Tx σ ∧ ((-1 ≤ zI σ 0 9 ∧ zI σ 0 9 ≤ 47) ∧ (0 ≤ zI σ 0 10 ∧ zI σ 0 10 ≤ 1000009) ∧ (0 ≤ zI σ 0 8 ∧ zI σ 0 8 ≤ 72057594037927936) ∧ (0 ≤ zI σ 0 37 ∧ zI σ 0 37 ≤ 5) ∧ (-100 ≤ zI σ 0 38 ∧ zI σ 0 38 ≤ 1000009) ∧ (-1 ≤ zI σ 0 39 ∧ zI σ 0 39 < 240) ∧ (-1 ≤ zI σ 0 41 ∧ zI σ 0 41 ≤ 47) ∧ (-1 ≤ zI σ 0 42 ∧ zI σ 0 42 ≤ 47)) ∧ G1 σ ∧ G2 σ ∧ G3 σ ∧ (∀ s : Int, 0 ≤ s → s < 80 → 0 ≤ zA σ 0 35 s ∧ zA σ 0 35 s < 240)
theorem GG.pa0 {σ : ZS} (h : GG σ) : PA0 σ := by
  obtain ⟨hT, ⟨l1, l2, l3, l4, l5, l6, l7, l8, l9, l10, l11, l12, l13, l14, l15, l16, l17, l18, l19⟩, hk, hn, hw, h1, h2, h3, h4, h5, h6⟩ := h
  exact ⟨hT, ⟨l4, l5, l6, l14, l15, l16, l17, l18⟩, h1, h2, h3, h4.1⟩
theorem s_next0 {σ : ZS} {Q : ZS → Prop} (hA0 : PA0 σ) (i5 : zI σ 0 5 = 0) (i17 : zI σ 0 17 = 0) (i18 : zI σ 0 18 = -1) (i23 : zI σ 0 23 = 0) (i31 : zI σ 0 31 = 0) (i32 : zI σ 0 32 = -1) (i33 : zI σ 0 33 = 0) (i34 : zI σ 0 34 = 0) (hQ : ∀ τ : ZS, GG τ → fr [5, 6, 7, 8, 9, 10] [] σ τ → Itm τ → Q τ) : wpX11_next σ Q := by
  obtain ⟨hT, ⟨l4, l5, l6, l14, l15, l16, l17, l18⟩, h1, h2, h3, h41⟩ := hA0
  have l1 := hT.1
  have hA : GA σ := ⟨h1, h2, h3, ⟨h41, fun s a b => by omega, fun n a b => by omega⟩, ⟨fun u a b => by omega, fun p a b => by omega⟩, fun _ => ⟨fun p a b => by omega, fun n a b => by omega⟩⟩
  refine s_next hT (by omega) (fun τ hn => ?_)
  obtain ⟨hf, s, e, hrun, q6, q5, hcase⟩ := hn
  have e2 := hf.1 2 (by decide); have e17 := hf.1 17 (by decide); have e18 := hf.1 18 (by decide); have e23 := hf.1 23 (by decide); have e31 := hf.1 31 (by decide); have e32 := hf.1 32 (by decide); have e33 := hf.1 33 (by decide); have e34 := hf.1 34 (by decide)
  have e37 := hf.1 37 (by decide); have e38 := hf.1 38 (by decide); have e39 := hf.1 39 (by decide); have e41 := hf.1 41 (by decide); have e42 := hf.1 42 (by decide)
  have a1 : zA τ 0 1 = zA σ 0 1 := hf.2 1 (by decide)
  have hTt : Tx τ := hT.fr hf (by decide) (by decide) (by decide)
  obtain ⟨r1, r2, r3, r4⟩ := hrun
  have hch : ∀ j : Int, 0 ≤ j → j < zI σ 0 2 → 0 ≤ zA σ 0 1 j ∧ zA σ 0 1 j < 256 := fun j a b => by have := hT.2.1 j a b; omega
  have key : (s ≤ e ∧ e ≤ zI σ 0 2) ∧ (0 ≤ zI τ 0 7 ∧ zI τ 0 7 ≤ 126) ∧ (zI τ 0 7 = 0 → s = zI σ 0 2) ∧ (zI τ 0 7 ≠ 0 → s < e) ∧ (-1 ≤ zI τ 0 9 ∧ zI τ 0 9 ≤ 47) ∧ (zI τ 0 7 = 1 → zI τ 0 9 = 12 → s + 3 ≤ e) ∧ (zI τ 0 7 = 1 → zI τ 0 9 = 13 → s + 6 ≤ e) ∧ (0 ≤ zI τ 0 10 ∧ zI τ 0 10 ≤ 1000009) ∧ (0 ≤ zI τ 0 8 ∧ zI τ 0 8 ≤ 72057594037927936) ∧ (zI τ 0 7 = 1 → e = zI σ 0 2 ∨ ¬ (cL (zA σ 0 1 e) ∨ cD (zA σ 0 1 e))) ∧ (zI τ 0 7 = 1 ∨ zI τ 0 7 = 2 → s < zI σ 0 2 ∧ (cL (zA σ 0 1 s) ∨ cD (zA σ 0 1 s))) := by
    rcases hcase with ⟨c1, c2, c3, c4, c5, c6⟩ | ⟨c1, c2, c3, c4, c5, c6, c7⟩ | ⟨c1, c2, c3, c4, c5, c6, c7⟩ | ⟨c1, c2, c3, c4, c5, c6, c7, c8⟩
    · exact ⟨by omega, by omega, by omega, by omega, by omega, by omega, by omega, by omega, by omega, by omega, by omega⟩
    · obtain ⟨d1, d2, d3, d4⟩ := c3
      have hb := wv_bd (h := zA σ 0 1) (s := s) (min (e - s) 7).toNat (fun j a b => hch j (by omega) (by omega))
      have h7 : (256 : Int) ^ (min (e - s) 7).toNat ≤ 256 ^ 7 := p256 (by omega)
      have h77 : (256 : Int) ^ 7 = 72057594037927936 := by decide
      have hcode : -1 ≤ zI τ 0 9 ∧ zI τ 0 9 ≤ 47 := by
        rcases c6 with c6 | c6
        · have := c6.1; omega
        · have := c6.1; have := c6.2.1; omega
      have hlen : ∀ (k : Nat) (c : Int), zI τ 0 9 = c → 0 ≤ c → c < 48 → (256 : Int) ^ k ≤ zwords c → k < (min (e - s) 7).toNat := by
        intro k c k1 k2 k3 k4
        refine wv_len (h := zA σ 0 1) (s := s) (w := zI τ 0 8) k (fun j a b => hch j (by omega) (by omega)) c5 ?_
        rcases c6 with c6 | c6
        · have := c6.1; omega
        · have := c6.2.2.1
          rw [k1, hT.2.2 c k2 k3] at this
          omega
      refine ⟨by omega, by rw [c4]; split <;> omega, fun h => by rw [c4] at h; split at h <;> omega, fun _ => by omega, hcode, fun t1 t2 => ?_, fun t1 t2 => ?_, by omega, by rw [c5]; omega, fun _ => d4, fun _ => ⟨c1, Or.inl c2⟩⟩
      · have := hlen 2 12 t2 (by decide) (by decide) (by decide)
        omega
      · have := hlen 5 13 t2 (by decide) (by decide) (by decide)
        omega
    · obtain ⟨d1, d2, d3, d4⟩ := c3
      have hb := nv_bd (h := zA σ 0 1) (s := s) (e - s - 1).toNat (fun j a b => by
        by_cases q : j = s
        · rw [q]; exact c2
        · exact d3 j (by omega) (by omega))
      rw [← c4] at hb
      have t7 : zI τ 0 7 = 2 ∨ zI τ 0 7 = 9 := by
        rw [c5]; split
        · exact Or.inl rfl
        · exact Or.inr rfl
      clear d3 d4 c5
      exact ⟨by omega, by omega, by omega, by omega, by omega, by omega, by omega, by omega, by omega, by omega, fun _ => ⟨c1, Or.inr c2⟩⟩
    · have ht := hT.2.1 s (by omega) c1
      have t7 : zI τ 0 7 ≠ 0 ∧ zI τ 0 7 ≠ 1 ∧ zI τ 0 7 ≠ 2 ∧ 0 ≤ zI τ 0 7 ∧ zI τ 0 7 ≤ 126 := by
        rcases c5 with c5 | c5
        · have k1 := c5.1; have k2 := c5.2; unfold cS at k1; omega
        · have k2 := c5.2; omega
      clear c2 c3 c5
      exact ⟨by omega, by omega, by omega, by omega, by omega, by omega, by omega, by omega, by omega, by omega, by omega⟩
  clear hcase
  obtain ⟨k1, k2, k3, k4, k5, k6, k7, k8, k9, k10, k11⟩ := key
  have hc : 7 * cntP (zA τ 0 19) (zI τ 0 23).toNat = 0 := by rw [e23, i23]; rfl
  have hLt : GL τ := by
    unfold GL
    clear k3 k4 k6 k7 k10 k11
    exact ⟨by omega, by omega, by omega, by omega, by omega, by omega, by omega, by omega, by omega, by omega, by omega, by omega, by omega, by omega, by omega, by omega, by omega, by omega, by omega⟩
  have hGG : GG τ := ⟨hTt, hLt, ⟨fun t => by have := k3 t; omega, fun t => by have := k4 t; omega, fun t1 t2 => by have := k6 t1 t2; omega, fun t1 t2 => by have := k7 t1 t2; omega, fun t1 => by rw [q5, e2, a1]; exact k10 t1⟩, fun _ _ => by omega, ⟨fun _ => by omega, fun _ q => by omega⟩, hf.gA hA⟩
  exact hQ τ hGG hf ⟨hGG, fun _ => by omega, by omega, by omega, by omega⟩
theorem s_parse {σ : ZS} {Q : Int → ZS → Prop} (hA0 : PA0 σ) (hQ : ∀ (r : Int) (τ : ZS), GG τ → fr PF PA σ τ → (r = 0 ∨ r = 1) → Q r τ) : wpX11_parse σ Q := by
  unfold wpX11_parse
  obtain ⟨σ0, h0⟩ : ∃ σ0, σ0 = zsI (zsI (zsI (zsI (zsI (zsI (zsI (zsI σ 0 5 0) 0 17 0) 0 18 (-1)) 0 23 0) 0 31 0) 0 32 (-1)) 0 33 0) 0 34 0 := ⟨_, rfl⟩
  have hf0 : fr PF PA σ σ0 := by rw [h0]; exact (((((((fr.rf.ti (by decide)).ti (by decide)).ti (by decide)).ti (by decide)).ti (by decide)).ti (by decide)).ti (by decide)).ti (by decide)
  have hA1 : PA0 σ0 := by rw [h0]; exact hA0
  rw [← h0]
  refine s_next0 hA1 (by rw [h0]; rfl) (by rw [h0]; rfl) (by rw [h0]; rfl) (by rw [h0]; rfl) (by rw [h0]; rfl) (by rw [h0]; rfl) (by rw [h0]; rfl) (by rw [h0]; rfl) (fun τ g f hI => ?_)
  have hfτ : fr PF PA σ τ := hf0.tr (f.up (by decide) (by decide))
  unfold wpX11_parse_44
  refine lfp0_ind (fun υ => (zI σ 0 2 - zI υ 0 6).toNat) (fun υ => Itm υ ∧ fr PF PA σ υ) ?_ ⟨hI, hfτ⟩
  intro P υ hI2 hP
  obtain ⟨hIu, hfu⟩ := hI2
  have hL := hIu.1.2.1
  obtain ⟨l1, l2, l3, -⟩ := hL
  have u2 := hfu.1 2 (by decide)
  unfold wpbX11_parse_44
  refine ⟨by omega, fun _ => hQ 1 υ hIu.1 hfu (Or.inr rfl), fun t0 => s_item hIu (fun r ω hp => ?_)⟩
  obtain ⟨pw, hw⟩ := hp
  have hfw : fr PF PA σ ω := hfu.tr pw.1
  have hlt := hIu.1.2.2.1.2.1 t0
  rcases hw with ⟨r0, gw⟩ | ⟨r1, iw, s6⟩
  · exact ⟨by omega, fun q => absurd r0 q, fun _ => hQ 0 ω gw hfw (Or.inl rfl)⟩
  · refine ⟨by omega, fun _ => hP ω ⟨iw, hfw⟩ ?_, fun q => by omega⟩
    have hLw := iw.1.2.1
    obtain ⟨m1, m2, -⟩ := hLw
    have w2 := hfw.1 2 (by decide)
    omega
/-! P: behind the parse: names judged, sizes found -/
def AI (σ : ZS) : Prop := ((0 ≤ zI σ 0 17 ∧ zI σ 0 17 ≤ 240) ∧ (0 ≤ zI σ 0 23 ∧ zI σ 0 23 ≤ 480) ∧ (0 ≤ zI σ 0 31 ∧ zI σ 0 31 ≤ 968) ∧ (0 ≤ zI σ 0 34 ∧ zI σ 0 34 ≤ 80) ∧ (-1 ≤ zI σ 0 18 ∧ zI σ 0 18 ≤ 480) ∧ 7 * cntP (zA σ 0 19) (zI σ 0 23).toNat ≤ 480) ∧ (zI σ 0 18 < 0 → zI σ 0 17 ≤ 24) ∧ GA σ
theorem GG.ai {σ : ZS} (h : GG σ) : AI (zsI σ 0 2 0) := by
  obtain ⟨hT, ⟨l1, l2, l3, l4, l5, l6, l7, l8, l9, l10, l11, l12, l13, l14, l15, l16, l17, l18, l19⟩, hk, hn, hw, hA⟩ := h
  refine ⟨⟨?_, ?_, ?_, ?_, l13, ?_⟩, hw.1, hA⟩
  · show 0 ≤ zI σ 0 17 ∧ zI σ 0 17 ≤ 240; omega
  · show 0 ≤ zI σ 0 23 ∧ zI σ 0 23 ≤ 480; omega
  · show 0 ≤ zI σ 0 31 ∧ zI σ 0 31 ≤ 968; omega
  · show 0 ≤ zI σ 0 34 ∧ zI σ 0 34 ≤ 80; omega
  · show 7 * cntP (zA σ 0 19) (zI σ 0 23).toNat ≤ 480; omega
theorem fr.ai {σ τ : ZS} (h : fr [18] [] σ τ) (k : AI σ) (hw : -1 ≤ zI τ 0 18 ∧ zI τ 0 18 ≤ 480) (hm : zI τ 0 18 < 0 → zI σ 0 18 < 0) : AI τ := by
  have i : ∀ f : Nat, f ≠ 18 → zI τ 0 f = zI σ 0 f := fun f hf => h.1 f (by simpa using hf)
  have a : ∀ j : Nat, zA τ 0 j = zA σ 0 j := fun j => h.2 j (by simp)
  obtain ⟨⟨c1, c2, c3, c4, c5, c6⟩, cw, h1, h2, h3, h4, h5, h6⟩ := k
  refine ⟨⟨by rw [i 17 (by decide)]; exact c1, by rw [i 23 (by decide)]; exact c2, by rw [i 31 (by decide)]; exact c3, by rw [i 34 (by decide)]; exact c4, hw, by rw [a 19, i 23 (by decide)]; exact c6⟩, fun q => by rw [i 17 (by decide)]; exact cw (hm q), ?_, ?_, ?_, ?_, ?_, ?_⟩
  · unfold G1; simp only [a]; exact h1
  · unfold G2; simp only [a]; exact h2
  · unfold G3; simp only [a]; exact h3
  · unfold G4; simp only [a, i 34 (by decide), i 17 (by decide)]; exact h4
  · unfold G5 hasUse; simp only [a, i 23 (by decide), i 17 (by decide), i 31 (by decide)]; exact h5
  · intro q
    rw [i 31 (by decide), i 34 (by decide), i 17 (by decide)]
    simp only [a]
    exact h6 (hm q)
/-- a use that was judged -/
def Jd (σ : ZS) (u : Int) : Prop := (zA σ 0 19 u = 0 → zA σ 0 13 (zA σ 0 20 u) = 2) ∧ (zA σ 0 19 u = 1 → zA σ 0 13 (zA σ 0 20 u) ≠ 0) ∧ (zA σ 0 19 u = 4 → 1 < zA σ 0 13 (zA σ 0 20 u))
theorem s_judge {σ : ZS} {Q : ZS → Prop} (hA : AI σ) (hQ : ∀ τ : ZS, AI τ → fr [18] [] σ τ → (zI τ 0 18 < 0 → zI σ 0 18 < 0 ∧ ∀ u : Int, 0 ≤ u → u < zI τ 0 23 → Jd τ u) → Q τ) : wpX11_judge σ Q := by
  obtain ⟨⟨c1, c2, c3, c4, c5, c6⟩, cw, h1, h2, h3, h4, h5, h6⟩ := hA
  have hA0 : AI σ := ⟨⟨c1, c2, c3, c4, c5, c6⟩, cw, h1, h2, h3, h4, h5, h6⟩
  unfold wpX11_judge wpX11_judge_2
  refine lfp1_ind (fun u _ => (480 - u).toNat) (fun u τ => (0 ≤ u ∧ u ≤ zI σ 0 23) ∧ fr [18] [] σ τ ∧ (-1 ≤ zI τ 0 18 ∧ zI τ 0 18 ≤ 480) ∧ (zI τ 0 18 < 0 → zI σ 0 18 < 0 ∧ ∀ j : Int, 0 ≤ j → j < u → Jd σ j)) ?_ ⟨by omega, fr.rf, c5, fun q => ⟨q, fun j a b => by omega⟩⟩
  intro P u τ hI hP
  obtain ⟨hu, hf, hw, hj⟩ := hI
  have i23 := hf.1 23 (by decide)
  have a13 := hf.2 13 (by decide); have a14 := hf.2 14 (by decide); have a19 := hf.2 19 (by decide); have a20 := hf.2 20 (by decide); have a21 := hf.2 21 (by decide); have a22 := hf.2 22 (by decide)
  unfold wpbX11_judge_2
  rw [i23, a20, a13, a14, a22]
  refine ⟨by omega, by omega, fun q => hQ τ (hf.ai hA0 hw (fun q => (hj q).1)) hf (fun q2 => ⟨(hj q2).1, fun j j0 j1 => ?_⟩), fun q => ?_⟩
  · have := (hj q2).2 j j0 (by omega)
    unfold Jd at this ⊢
    rw [a19, a20, a13]; exact this
  · obtain ⟨u1, u2, u3, u4⟩ := h2 u hu.1 (by omega)
    obtain ⟨n1, n2, n3, n4⟩ := h1 (zA σ 0 20 u) u2.1 u2.2
    have good : Jd σ u → wpX11_judge_163 P u 1 τ Q := by
      intro jd
      unfold wpX11_judge_163 wpX11_judge_180
      refine ⟨by decide, fun _ => hP _ _ ⟨by omega, hf, hw, fun q2 => ⟨(hj q2).1, fun j j0 j1 => ?_⟩⟩ (by omega), fun q2 => absurd q2 (by decide)⟩
      by_cases e : j = u
      · rw [e]; exact jd
      · exact (hj q2).2 j j0 (by omega)
    have bad : wpX11_judge_163 P u 0 τ Q := by
      unfold wpX11_judge_163 wpX11_judge_180
      refine ⟨by decide, fun q2 => absurd rfl q2, fun _ => ⟨by omega, ?_⟩⟩
      rw [a21]
      unfold wpX11_wrongAt wpX11_wrongAt_15 wpX11_wrongAt_20
      have set : ∀ w : Int, 0 ≤ w → w ≤ 480 → P (u + 1) (zsI τ 0 18 w) := fun w w0 w1 => hP _ _ ⟨by omega, hf.ti (by decide), (by show -1 ≤ w ∧ w ≤ 480; omega), fun q2 => by have q3 : w < 0 := q2; omega⟩ (by omega)
      refine ⟨by omega, fun _ => set _ u3.1 u3.2, fun nn => ⟨by omega, fun _ => ?_, fun _ => set _ u3.1 u3.2⟩⟩
      have := set (zI τ 0 18) (by omega) hw.2
      rw [zsI_self] at this
      exact this
    have f47 : ∀ s0 : Int, 0 ≤ s0 → s0 ≤ 1 → wpX11_judge_47 P u (zA σ 0 20 u) s0 τ Q := by
      intro s0 z0 z1
      unfold wpX11_judge_47 wpX11_judge_140
      rw [a19, a13]
      refine ⟨by omega, by omega, fun k0 => ⟨fun k1 => ⟨fun k2 => ⟨fun k3 => ⟨by omega, by omega, fun _ => bad, fun g => good ⟨fun e => absurd e k0, fun e => absurd e k1, fun _ => by omega⟩⟩, fun k3 => ⟨by omega, fun _ => good ⟨fun e => by omega, fun e => by omega, fun e => by omega⟩, fun _ => ⟨by omega, by omega, fun _ => bad, fun _ => good ⟨fun e => by omega, fun e => by omega, fun e => by omega⟩⟩⟩⟩, fun k2 => ?_⟩, fun k1 => ⟨by omega, by omega, fun _ => bad, fun g => good ⟨fun e => by omega, fun _ => g, fun e => by omega⟩⟩⟩, fun k0 => ⟨by omega, by omega, fun _ => bad, fun g => good ⟨fun _ => g, fun e => by omega, fun e => by omega⟩⟩⟩
      rcases (show s0 = 0 ∨ s0 = 1 from by omega) with rfl | rfl
      · exact bad
      · exact good ⟨fun e => by omega, fun e => by omega, fun e => by omega⟩
    unfold wpX11_judge_46
    exact ⟨by omega, by omega, by omega, fun _ => f47 0 (by decide) (by decide), fun _ => ⟨by omega, by omega, fun _ => f47 0 (by decide) (by decide), fun _ => f47 1 (by decide) (by decide)⟩⟩
def psum (f : Int → Int) : Nat → Int
  | 0 => 0
  | n + 1 => psum f n + f n
theorem psum_ext {f g : Int → Int} : ∀ n : Nat, (∀ j : Int, 0 ≤ j → j < n → f j = g j) → psum f n = psum g n
  | 0, _ => rfl
  | n + 1, h => by
    show psum f n + f n = psum g n + g n
    rw [psum_ext n (fun j a b => h j a (by omega)), h n (by omega) (by omega)]
theorem psum_zu {f : Int → Int} {i d : Int} : ∀ n : Nat, 0 ≤ i → i < n → psum (zu f i (f i + d)) n = psum f n + d
  | 0, _, h => by omega
  | n + 1, h0, h1 => by
    show psum (zu f i (f i + d)) n + zu f i (f i + d) n = psum f n + f n + d
    by_cases e : i = n
    · rw [psum_ext (g := f) n (fun j a b => pu_ne (by omega)), e, pu_eq]; omega
    · rw [psum_zu n h0 (by omega), pu_ne (by omega)]; omega
theorem psum_nn {f : Int → Int} : ∀ n : Nat, (∀ j : Int, 0 ≤ j → j < n → 0 ≤ f j) → 0 ≤ psum f n
  | 0, _ => Int.le_refl 0
  | n + 1, h => by
    have := psum_nn n (fun j a b => h j a (by omega))
    have := h n (by omega) (by omega)
    show 0 ≤ psum f n + f n
    omega
theorem psum_mono {f : Int → Int} {m : Nat} : ∀ n : Nat, m ≤ n → (∀ j : Int, 0 ≤ j → j < n → 0 ≤ f j) → psum f m ≤ psum f n
  | 0, hm, _ => by rw [Nat.le_zero.mp hm]; exact Int.le_refl _
  | n + 1, hm, h => by
    rcases Nat.lt_or_ge n m with q | q
    · have : m = n + 1 := by omega
      rw [this]; exact Int.le_refl _
    · have h1 := psum_mono (m := m) n q (fun j a b => h j a (by omega))
      have h2 := h n (by omega) (by omega)
      show _ ≤ psum f n + f n
      omega
/-- bytes of a piece -/
def szf (k a n : Int) : Int := if k = 0 then 1 else if k = 4 then (if n = 0 then 2 else 3) else if k = 6 then 3 else if k = 7 then 0 else if k = 8 then a else 2
def szp (σ : ZS) (p : Int) : Int := szf (zA σ 0 24 p) (zA σ 0 25 p) (zA σ 0 30 p)
theorem szp_bd {σ : ZS} (h : G3 σ) {p : Int} (h0 : 0 ≤ p) (h1 : p < 1200) : 0 ≤ szp σ p ∧ szp σ p ≤ 64 := by
  obtain ⟨q1, q2, q3, q4, q5, q6, q7, q8⟩ := h p h0 h1
  unfold szp szf
  split
  · decide
  · split
    · split <;> decide
    · split
      · decide
      · split
        · decide
        · split
          · rename_i e; exact q3 e
          · decide
theorem s_sizeOf {σ : ZS} {p : Int} {Q : Int → ZS → Prop} (h : G3 σ) (h0 : 0 ≤ p ∧ p < 1200) (hQ : Q (szp σ p) σ) : wpX11_sizeOf p σ Q := by
  obtain ⟨q1, q2, q3, q4, q5, q6, q7, q8⟩ := h p h0.1 h0.2
  unfold szp szf at hQ
  unfold wpX11_sizeOf wpX11_sizeOf_86 wpX11_sizeOf_72
  refine ⟨h0, by omega, fun e => ?_, fun n0 => ⟨fun e => ?_, fun n1 => ⟨fun e => ?_, fun n2 => ⟨fun e => ?_, fun n3 => ⟨fun e => ⟨by omega, fun z => ?_, fun z => ?_⟩, fun n4 => ⟨fun e => ?_, fun n5 => ⟨fun e => ?_, fun n6 => ⟨fun e => ?_, fun n7 => ⟨fun e => ?_, fun n8 => ?_⟩⟩⟩⟩⟩⟩⟩⟩⟩
  · rw [if_pos e] at hQ; exact hQ
  · rw [e] at hQ; exact hQ
  · rw [e] at hQ; exact hQ
  · rw [e] at hQ; exact hQ
  · rw [e, z] at hQ; exact hQ
  · rw [if_neg n0, if_pos e, if_neg z] at hQ; exact hQ
  · rw [e] at hQ; exact hQ
  · rw [e] at hQ; exact hQ
  · rw [e] at hQ; exact hQ
  · rw [if_neg n0, if_neg n4, if_neg n6, if_neg n7, if_pos e] at hQ; exact hQ
  · rw [if_neg n0, if_neg n4, if_neg n6, if_neg n7, if_neg n8] at hQ; exact hQ
/-! P: lay and settle -/
def OFs (σ : ZS) : Prop := ∀ n : Int, 0 ≤ n → n < 240 → 0 ≤ zA σ 0 16 n ∧ zA σ 0 16 n ≤ 62000
def Lyp (σ : ZS) : Prop := (∀ s : Int, 0 ≤ s → s < zI σ 0 34 → 0 ≤ zA σ 0 36 s ∧ zA σ 0 36 s ≤ 62000) ∧ (∀ p : Int, 0 ≤ p → p < zI σ 0 31 → 0 ≤ zA σ 0 29 p ∧ zA σ 0 29 p ≤ 62000 ∧ zA σ 0 29 p + szp σ p ≤ zA σ 0 36 (zA σ 0 28 p)) ∧ psum (zA σ 0 36) (zI σ 0 34).toNat = psum (szp σ) (zI σ 0 31).toNat
/-- the pieces lie in segments -/
def Sg (σ : ZS) : Prop := (0 ≤ zI σ 0 31 ∧ zI σ 0 31 ≤ 968) ∧ (0 ≤ zI σ 0 34 ∧ zI σ 0 34 ≤ 80) ∧ (∀ p : Int, 0 ≤ p → p < zI σ 0 31 → 0 ≤ zA σ 0 28 p ∧ zA σ 0 28 p < zI σ 0 34)
theorem szp_eq {σ τ : ZS} (h24 : zA τ 0 24 = zA σ 0 24) (h25 : zA τ 0 25 = zA σ 0 25) (h30 : zA τ 0 30 = zA σ 0 30) : szp τ = szp σ := by
  funext p
  unfold szp
  rw [h24, h25, h30]
theorem s_lay {σ : ZS} {Q : ZS → Prop} (h3 : G3 σ) (hO : OFs σ) (hS : Sg σ) (hQ : ∀ τ : ZS, fr [] [16, 29, 36] σ τ → OFs τ → Lyp τ → Q τ) : wpX11_lay σ Q := by
  obtain ⟨hp, hs, hg⟩ := hS
  unfold wpX11_lay wpX11_lay_2
  refine lfp1_ind (fun v _ => (80 - v).toNat) (fun v τ => (0 ≤ v ∧ v ≤ zI σ 0 34) ∧ fr [] [36] σ τ ∧ (∀ j : Int, 0 ≤ j → j < v → zA τ 0 36 j = 0)) ?_ ⟨by omega, fr.rf, fun j a b => by omega⟩
  intro P v τ hI hP
  obtain ⟨hv, hf, hz⟩ := hI
  have i34 := hf.1 34 (by decide)
  unfold wpbX11_lay_2
  rw [i34]
  refine ⟨by omega, by omega, fun q => ?_, fun q => ⟨by omega, hP _ _ ⟨by omega, hf.ta (by decide), fun j j0 j1 => ?_⟩ (by omega)⟩⟩
  rotate_left
  · show zu (zA τ 0 36) v 0 j = 0
    by_cases e : j = v
    · rw [e, pu_eq]
    · rw [pu_ne e]; exact hz j j0 (by omega)
  have hsum0 : psum (zA τ 0 36) (zI σ 0 34).toNat = 0 := by
    rw [psum_ext (g := fun _ => 0) _ (fun j a b => hz j a (by omega))]
    generalize (zI σ 0 34).toNat = n
    induction n with
    | zero => rfl
    | succ n ih => show psum (fun _ => 0) n + 0 = 0; omega
  have hf3 : fr [] [16, 29, 36] σ τ := hf.up (by decide) (by decide)
  unfold wpX11_lay_25
  refine lfp1_ind (fun k _ => (1200 - k).toNat) (fun k υ => (0 ≤ k ∧ k ≤ zI σ 0 31) ∧ fr [] [16, 29, 36] σ υ ∧ OFs υ ∧ (∀ s : Int, 0 ≤ s → s < zI σ 0 34 → 0 ≤ zA υ 0 36 s ∧ zA υ 0 36 s ≤ 64 * k) ∧ (∀ p : Int, 0 ≤ p → p < k → 0 ≤ zA υ 0 29 p ∧ zA υ 0 29 p ≤ 62000 ∧ zA υ 0 29 p + szp σ p ≤ zA υ 0 36 (zA σ 0 28 p)) ∧ psum (zA υ 0 36) (zI σ 0 34).toNat = psum (szp σ) k.toNat) ?_ ⟨by omega, hf3, (by unfold OFs; rw [hf.2 16 (by decide)]; exact hO), fun s a b => by rw [hz s a (by omega)]; omega, fun p a b => by omega, hsum0⟩
  intro P2 k υ hI2 hP2
  obtain ⟨hk, hfu, hOu, hsz, hat, hsum⟩ := hI2
  have j31 := hfu.1 31 (by decide)
  have a24 := hfu.2 24 (by decide); have a25 := hfu.2 25 (by decide); have a28 := hfu.2 28 (by decide); have a30 := hfu.2 30 (by decide)
  have hszp := szp_eq a24 a25 a30
  have h3u : G3 υ := by unfold G3; rw [a24, a25, hfu.2 26 (by decide), hfu.2 27 (by decide), a28, a30]; exact h3
  unfold wpbX11_lay_25
  rw [j31, a28, a24, a25]
  refine ⟨by omega, by omega, fun q2 => hQ υ hfu hOu ⟨?_, ?_, ?_⟩, fun q2 => ?_⟩
  · intro s a b
    rw [hfu.1 34 (by decide)] at b
    have := hsz s a b; omega
  · intro p a b
    rw [j31] at b
    rw [a28, hszp]
    exact hat p a (by omega)
  · rw [hfu.1 34 (by decide), j31, hszp, hsum, show k = zI σ 0 31 by omega]
  · obtain ⟨q1, q2', q3, q4, q5, q6, q7, q8⟩ := h3 k hk.1 (by omega)
    have hseg := hg k hk.1 (by omega)
    have hsk := hsz (zA σ 0 28 k) hseg.1 hseg.2
    have hzb := szp_bd h3 hk.1 (by omega)
    have hnn : ∀ s : Int, 0 ≤ s → s < ((zI σ 0 34).toNat : Int) → 0 ≤ zA υ 0 36 s := fun s a b => (hsz s a (by omega)).1
    -- the step
    have go : ∀ ω : ZS, fr [] [16, 29, 36] σ ω → OFs ω → zA ω 0 36 = zA υ 0 36 → zA ω 0 29 = zu (zA υ 0 29) k (zA υ 0 36 (zA σ 0 28 k)) → wpX11_lay_80 P2 k (zA σ 0 28 k) ω Q := by
      intro ω hfw hOw e36 e29
      have b24 := hfw.2 24 (by decide); have b25 := hfw.2 25 (by decide); have b30 := hfw.2 30 (by decide); have b28 := hfw.2 28 (by decide)
      have hszw := szp_eq b24 b25 b30
      have h3w : G3 ω := by unfold G3; rw [b24, b25, hfw.2 26 (by decide), hfw.2 27 (by decide), b28, b30]; exact h3
      unfold wpX11_lay_80
      refine ⟨by omega, s_sizeOf h3w (by omega) ?_⟩
      rw [hszw, e36]
      have c36 : zA (zsA ω 0 36 (zA σ 0 28 k) (zA υ 0 36 (zA σ 0 28 k) + szp σ k)) 0 36 = zu (zA υ 0 36) (zA σ 0 28 k) (zA υ 0 36 (zA σ 0 28 k) + szp σ k) := by
        show zu (zA ω 0 36) _ _ = _; rw [e36]
      refine hP2 _ _ ⟨by omega, hfw.ta (by decide), hOw, fun s a b => ?_, fun p a b => ?_, ?_⟩ (by omega)
      · rw [c36]
        have := hsz s a b
        by_cases e : s = zA σ 0 28 k
        · rw [e, pu_eq]; omega
        · rw [pu_ne e]; omega
      · rw [c36]
        show 0 ≤ zA ω 0 29 p ∧ zA ω 0 29 p ≤ 62000 ∧ zA ω 0 29 p + szp σ p ≤ _
        rw [e29]
        by_cases e : p = k
        · rw [e, pu_eq, pu_eq]; omega
        · rw [pu_ne e]
          have hh := hat p a (by omega)
          refine ⟨hh.1, hh.2.1, ?_⟩
          by_cases e2 : zA σ 0 28 p = zA σ 0 28 k
          · rw [e2, pu_eq]; rw [e2] at hh; omega
          · rw [pu_ne e2]; exact hh.2.2
      · rw [c36, psum_zu _ hseg.1 (by omega), hsum, show (k + 1).toNat = k.toNat + 1 by omega]
        show psum (szp σ) k.toNat + szp σ k = psum (szp σ) k.toNat + szp σ ((k.toNat : Nat) : Int)
        rw [show ((k.toNat : Nat) : Int) = k by omega]
    refine ⟨by omega, by omega, by omega, fun n7 => go _ (hfu.ta (by decide)) hOu rfl rfl, fun e7 => ⟨q2' (by omega) (by omega), go _ ((hfu.ta (by decide)).ta (by decide)) ?_ rfl rfl⟩⟩
    intro n n0 n1
    show 0 ≤ zu (zA υ 0 16) (zA σ 0 25 k) (zA υ 0 36 (zA σ 0 28 k)) n ∧ zu (zA υ 0 16) (zA σ 0 25 k) (zA υ 0 36 (zA σ 0 28 k)) n ≤ 62000
    by_cases e : n = zA σ 0 25 k
    · rw [e, pu_eq]; omega
    · rw [pu_ne e]; exact hOu n n0 n1
theorem s_distance {σ : ZS} {p : Int} {Q : Int → ZS → Prop} (h3 : G3 σ) (h0 : 0 ≤ p ∧ p < 1200) (hn : 0 ≤ zA σ 0 25 p ∧ zA σ 0 25 p < 240) (hQ : Q (zA σ 0 16 (zA σ 0 25 p) - zA σ 0 29 p - szp σ p) σ) : wpX11_distance p σ Q := by
  unfold wpX11_distance
  exact ⟨h0, hn, s_sizeOf h3 h0 hQ⟩
theorem s_isShort {σ : ZS} {d : Int} {Q : Int → ZS → Prop} (hd : -1000000 ≤ d ∧ d ≤ 1000000) (h1 : -128 ≤ d → d ≤ 127 → Q 1 σ) (h0 : (d < -128 ∨ 127 < d) → Q 0 σ) : wpX11_isShort d σ Q := by
  unfold wpX11_isShort wpX11_isShort_16 wpX11_isShort_17
  exact ⟨by omega, fun q => ⟨by decide, h0 (Or.inl q)⟩, fun q => ⟨fun k => ⟨by decide, h0 (Or.inr k)⟩, fun k => ⟨by decide, h1 (by omega) (by omega)⟩⟩⟩
theorem G3_near {σ : ZS} {p v : Int} (h : G3 σ) (hv : 0 ≤ v ∧ v ≤ 1) : G3 (zsA σ 0 30 p v) := by
  intro q q0 q1
  obtain ⟨c1, c2, c3, c4, c5, c6, c7, c8⟩ := h q q0 q1
  refine ⟨c1, c2, c3, c4, c5, c6, c7, ?_⟩
  show 0 ≤ zu (zA σ 0 30) p v q ∧ zu (zA σ 0 30) p v q ≤ 1
  by_cases e : q = p
  · rw [e, pu_eq]; exact hv
  · rw [pu_ne e]; exact c8
/-- jumps not yet near -/
def cz (σ : ZS) : Int := psum (fun p => if zA σ 0 30 p = 0 then 1 else 0) (zI σ 0 31).toNat
theorem cz_nn {σ : ZS} : 0 ≤ cz σ := psum_nn _ (fun j _ _ => by show 0 ≤ (if zA σ 0 30 j = 0 then (1 : Int) else 0); split <;> decide)
theorem cz_less {σ : ZS} {p : Int} (h0 : 0 ≤ p) (h1 : p < zI σ 0 31) (hz : zA σ 0 30 p = 0) : cz (zsA σ 0 30 p 1) = cz σ - 1 := by
  unfold cz
  have e : psum (fun q => if zA (zsA σ 0 30 p 1) 0 30 q = 0 then 1 else 0) (zI (zsA σ 0 30 p 1) 0 31).toNat = psum (zu (fun q => if zA σ 0 30 q = 0 then 1 else 0) p ((fun q => if zA σ 0 30 q = 0 then (1 : Int) else 0) p + -1)) (zI σ 0 31).toNat := by
    show psum (fun q => if zu (zA σ 0 30) p 1 q = 0 then 1 else 0) (zI σ 0 31).toNat = _
    refine psum_ext _ (fun j a b => ?_)
    show (if zu (zA σ 0 30) p 1 j = 0 then (1 : Int) else 0) = zu (fun q => if zA σ 0 30 q = 0 then (1 : Int) else 0) p ((if zA σ 0 30 p = 0 then (1 : Int) else 0) + -1) j
    by_cases q : j = p
    · rw [q, pu_eq, pu_eq, if_pos hz]; rfl
    · rw [pu_ne q, pu_ne q]
  rw [e, psum_zu _ h0 (by omega)]
  omega
theorem cz_eq {σ τ : ZS} (h30 : zA τ 0 30 = zA σ 0 30) (h31 : zI τ 0 31 = zI σ 0 31) : cz τ = cz σ := by unfold cz; rw [h30, h31]
theorem s_settle {σ : ZS} {Q : ZS → Prop} (h1 : G1 σ) (h3 : G3 σ) (hO : OFs σ) (hS : Sg σ) (hQ : ∀ τ : ZS, fr [] [16, 29, 30, 36] σ τ → G3 τ → OFs τ → Lyp τ → (∀ j : Int, 0 ≤ j → j < zI σ 0 31 → zA σ 0 24 j = 4 → zA σ 0 13 (zA σ 0 25 j) = 3 → zA τ 0 30 j = 1) → Q τ) : wpX11_settle σ Q := by
  have hS0 := hS
  obtain ⟨hp, hs, hg⟩ := hS
  unfold wpX11_settle wpX11_settle_2
  refine lfp1_ind (fun v _ => (1200 - v).toNat) (fun v τ => (0 ≤ v ∧ v ≤ zI σ 0 31) ∧ fr [] [30] σ τ ∧ G3 τ ∧ (∀ j : Int, 0 ≤ j → j < v → zA σ 0 24 j = 4 → zA σ 0 13 (zA σ 0 25 j) = 3 → zA τ 0 30 j = 1)) ?_ ⟨by omega, fr.rf, h3, fun j a b => by omega⟩
  intro P v τ hI hP
  obtain ⟨hv, hf, h3t, hne⟩ := hI
  have i31 := hf.1 31 (by decide)
  have a24 := hf.2 24 (by decide); have a25 := hf.2 25 (by decide); have a13 := hf.2 13 (by decide)
  have f45 : ∀ s2 : Int, 0 ≤ s2 → s2 ≤ 1 → v < zI σ 0 31 → (zA σ 0 24 v = 4 → zA σ 0 13 (zA σ 0 25 v) = 3 → s2 = 1) → wpX11_settle_45 P v s2 v τ Q := by
    intro s2 z0 z1 hlt hx
    unfold wpX11_settle_45
    refine ⟨by omega, ⟨z0, z1⟩, hP _ _ ⟨by omega, hf.ta (by decide), G3_near h3t ⟨z0, z1⟩, fun j j0 j1 j2 j3 => ?_⟩ (by omega)⟩
    show zu (zA τ 0 30) v s2 j = 1
    by_cases e : j = v
    · rw [e, pu_eq]; rw [e] at j2 j3; exact hx j2 j3
    · rw [pu_ne e]; exact hne j j0 (by omega) j2 j3
  unfold wpbX11_settle_2 wpX11_settle_44
  rw [i31, a24, a25, a13]
  refine ⟨by omega, by omega, fun hall => ?_, fun q => ?_⟩
  rotate_left
  · obtain ⟨q1, q2, q3, q4, q5, q6, q7, q8⟩ := h3 v hv.1 (by omega)
    refine ⟨by omega, by omega, fun n4 => f45 0 (by decide) (by decide) (by omega) (fun e => absurd e n4), fun e4 => ?_⟩
    have hn := q2 (by omega) (by omega)
    have := (h1 (zA σ 0 25 v) hn.1 hn.2).1
    exact ⟨hn, by omega, fun n3 => f45 0 (by decide) (by decide) (by omega) (fun _ e => absurd e n3), fun _ => f45 1 (by decide) (by decide) (by omega) (fun _ _ => rfl)⟩
  -- the rounds
  have hOt : OFs τ := by unfold OFs; rw [hf.2 16 (by decide)]; exact hO
  have hne' : ∀ j : Int, 0 ≤ j → j < zI σ 0 31 → zA σ 0 24 j = 4 → zA σ 0 13 (zA σ 0 25 j) = 3 → zA τ 0 30 j = 1 := fun j j0 j1 => hne j j0 (by omega)
  clear hP hv f45 hne P
  unfold wpX11_settle_54
  refine lfp1_ind (fun w υ => (cz υ).toNat + (if w = 0 then 0 else 1)) (fun w υ => (0 ≤ w ∧ w ≤ 1) ∧ fr [] [16, 29, 30, 36] σ υ ∧ G3 υ ∧ OFs υ ∧ (w = 0 → Lyp υ) ∧ (∀ j : Int, 0 ≤ j → j < zI σ 0 31 → zA σ 0 24 j = 4 → zA σ 0 13 (zA σ 0 25 j) = 3 → zA υ 0 30 j = 1)) ?_ ⟨by decide, hf.up (by decide) (by decide), h3t, hOt, fun q => absurd q (by decide), hne'⟩
  intro P w υ hI hP
  obtain ⟨hw, hfu, h3u, hOu, hL, hnu⟩ := hI
  unfold wpbX11_settle_54
  refine ⟨by omega, fun q => hQ υ hfu h3u hOu (hL q) hnu, fun nw => ?_⟩
  have hSu : Sg υ := by unfold Sg; rw [hfu.1 31 (by decide), hfu.1 34 (by decide), hfu.2 28 (by decide)]; exact hS0
  refine s_lay h3u hOu hSu (fun ω hfw hOw hLw => ?_)
  have h3w : G3 ω := by unfold G3; rw [hfw.2 24 (by decide), hfw.2 25 (by decide), hfw.2 26 (by decide), hfw.2 27 (by decide), hfw.2 28 (by decide), hfw.2 30 (by decide)]; exact h3u
  have hfσw : fr [] [16, 29, 30, 36] σ ω := hfu.tr (hfw.up (by decide) (by decide))
  have hczw : cz ω = cz υ := cz_eq (hfw.2 30 (by decide)) (hfw.1 31 (by decide))
  unfold wpX11_settle_66
  refine lfp2_ind (fun _ k _ => (1200 - k).toNat) (fun m k ψ => (0 ≤ m ∧ m ≤ 1) ∧ (0 ≤ k ∧ k ≤ zI σ 0 31) ∧ fr [] [30] ω ψ ∧ G3 ψ ∧ (m = 0 → Lyp ψ) ∧ cz ψ ≤ cz ω ∧ (¬ m = 0 → cz ψ < cz ω) ∧ (∀ j : Int, 0 ≤ j → j < zI σ 0 31 → zA σ 0 24 j = 4 → zA σ 0 13 (zA σ 0 25 j) = 3 → zA ψ 0 30 j = 1)) ?_ ⟨by decide, by omega, fr.rf, h3w, fun _ => hLw, Int.le_refl _, fun q => absurd rfl q, by rw [hfw.2 30 (by decide)]; exact hnu⟩
  intro P2 m k ψ hI2 hP2
  obtain ⟨hm, hk, hfp, h3p, hLp, hc1, hc2, hnp⟩ := hI2
  have hfσp : fr [] [16, 29, 30, 36] σ ψ := hfσw.tr (hfp.up (by decide) (by decide))
  have j31 : zI ψ 0 31 = zI σ 0 31 := hfσp.1 31 (by decide)
  have b24 : zA ψ 0 24 = zA σ 0 24 := hfσp.2 24 (by decide)
  have hOp : OFs ψ := by unfold OFs; rw [hfp.2 16 (by decide)]; exact hOw
  have nnp := cz_nn (σ := ψ); have nnu := cz_nn (σ := υ)
  unfold wpbX11_settle_66 wpX11_settle_116
  rw [j31, b24]
  refine ⟨by omega, by omega, fun q => ?_, fun q => ?_⟩
  · refine hP _ _ ⟨hm, hfσp, h3p, hOp, hLp, hnp⟩ ?_
    rw [if_neg nw]
    by_cases e : m = 0
    · rw [if_pos e]; omega
    · have := hc2 e
      rw [if_neg e]; omega
  · obtain ⟨q1, q2, q3, q4, q5, q6, q7, q8⟩ := h3 k hk.1 (by omega)
    have q8p := (h3p k hk.1 (by omega)).2.2.2.2.2.2.2
    have same : P2 m (k + 1) ψ := hP2 _ _ _ ⟨hm, by omega, hfp, h3p, hLp, hc1, hc2, hnp⟩ (by omega)
    refine ⟨by omega, by omega, fun _ => same, fun e4 => ⟨by omega, fun _ => same, fun z => ?_⟩⟩
    have hn := q2 (by omega) (by omega)
    have b25 : zA ψ 0 25 = zA σ 0 25 := hfσp.2 25 (by decide)
    have b29 : zA ψ 0 29 = zA ω 0 29 := hfp.2 29 (by decide)
    have w31 : zI ω 0 31 = zI σ 0 31 := hfσw.1 31 (by decide)
    have hat := hLw.2.1 k hk.1 (by omega)
    have hzb := szp_bd h3p hk.1 (by omega)
    have hof := hOp (zA ψ 0 25 k) (by rw [b25]; exact hn.1) (by rw [b25]; exact hn.2)
    refine s_distance h3p (by omega) (by rw [b25]; exact hn) ?_
    refine s_isShort (by rw [b29]; omega) (fun _ _ => ⟨by decide, fun q => absurd q (by decide), fun _ => same⟩) (fun _ => ⟨by decide, fun _ => ?_, fun q => absurd rfl q⟩)
    have hless := cz_less (σ := ψ) (p := k) hk.1 (by omega) z
    refine hP2 _ _ _ ⟨by decide, by omega, hfp.ta (by decide), G3_near h3p (by decide), fun q => absurd q (by decide), by omega, fun _ => by omega, fun j j0 j1 j2 j3 => ?_⟩ (by omega)
    show zu (zA ψ 0 30) k 1 j = 1
    by_cases e : j = k
    · rw [e, pu_eq]
    · rw [pu_ne e]; exact hnp j j0 j1 j2 j3
/-! P: a module is written -/
abbrev WA : List Nat := [43, 44, 45, 46, 47, 48, 49, 50, 51, 52, 53, 54, 55, 56, 57, 58, 59]
def OU (m : Int) (σ τ : ZS) : Prop := (∀ j : Int, j ≠ m → zA τ 0 43 j = zA σ 0 43 j ∧ zA τ 0 44 j = zA σ 0 44 j ∧ zA τ 0 50 j = zA σ 0 50 j ∧ zA τ 0 56 j = zA σ 0 56 j) ∧ (∀ i : Int, i < 24 * m ∨ 24 * m + 24 ≤ i → zA τ 0 46 i = zA σ 0 46 i ∧ zA τ 0 47 i = zA σ 0 47 i ∧ zA τ 0 48 i = zA σ 0 48 i) ∧ (∀ f : Int, f < 200 * m ∨ 200 * m + 200 ≤ f → zA τ 0 51 f = zA σ 0 51 f ∧ zA τ 0 52 f = zA σ 0 52 f ∧ zA τ 0 53 f = zA σ 0 53 f ∧ zA τ 0 54 f = zA σ 0 54 f) ∧ (∀ q : Int, q < 80 * m ∨ 80 * m + 80 ≤ q → zA τ 0 58 q = zA σ 0 58 q ∧ zA τ 0 59 q = zA σ 0 59 q)
theorem OU.rf {m : Int} {σ : ZS} : OU m σ σ := ⟨fun _ _ => ⟨rfl, rfl, rfl, rfl⟩, fun _ _ => ⟨rfl, rfl, rfl⟩, fun _ _ => ⟨rfl, rfl, rfl, rfl⟩, fun _ _ => ⟨rfl, rfl⟩⟩
theorem OU.tr {m : Int} {σ τ υ : ZS} (h : OU m σ τ) (k : OU m τ υ) : OU m σ υ := by
  obtain ⟨a1, a2, a3, a4⟩ := h
  obtain ⟨b1, b2, b3, b4⟩ := k
  refine ⟨fun j hj => ?_, fun j hj => ?_, fun j hj => ?_, fun j hj => ?_⟩
  · obtain ⟨x1, x2, x3, x4⟩ := a1 j hj
    obtain ⟨y1, y2, y3, y4⟩ := b1 j hj
    exact ⟨y1.trans x1, y2.trans x2, y3.trans x3, y4.trans x4⟩
  · obtain ⟨x1, x2, x3⟩ := a2 j hj
    obtain ⟨y1, y2, y3⟩ := b2 j hj
    exact ⟨y1.trans x1, y2.trans x2, y3.trans x3⟩
  · obtain ⟨x1, x2, x3, x4⟩ := a3 j hj
    obtain ⟨y1, y2, y3, y4⟩ := b3 j hj
    exact ⟨y1.trans x1, y2.trans x2, y3.trans x3, y4.trans x4⟩
  · obtain ⟨x1, x2⟩ := a4 j hj
    obtain ⟨y1, y2⟩ := b4 j hj
    exact ⟨y1.trans x1, y2.trans x2⟩
/-- a module -/
def MI (σ : ZS) (m : Int) : Prop := ((0 ≤ zA σ 0 44 m ∧ zA σ 0 44 m ≤ 24) ∧ (0 ≤ zA σ 0 50 m ∧ zA σ 0 50 m ≤ 200) ∧ (0 ≤ zA σ 0 56 m ∧ zA σ 0 56 m ≤ 80)) ∧ (∀ s : Int, 0 ≤ s → s < zA σ 0 44 m → 0 ≤ zA σ 0 47 (24 * m + s) ∧ 0 ≤ zA σ 0 48 (24 * m + s) ∧ zA σ 0 47 (24 * m + s) + zA σ 0 48 (24 * m + s) ≤ 400 ∧ 1 ≤ zA σ 0 46 (24 * m + s) ∧ zA σ 0 46 (24 * m + s) ≤ 16) ∧ (∀ k : Int, 0 ≤ k → k < zA σ 0 50 m → (0 ≤ zA σ 0 51 (200 * m + k) ∧ zA σ 0 51 (200 * m + k) ≤ 2) ∧ (0 ≤ zA σ 0 52 (200 * m + k) ∧ zA σ 0 52 (200 * m + k) < zA σ 0 44 m) ∧ 0 ≤ zA σ 0 53 (200 * m + k) ∧ zA σ 0 53 (200 * m + k) + 2 ≤ zA σ 0 48 (24 * m + zA σ 0 52 (200 * m + k)) ∧ (-1 ≤ zA σ 0 54 (200 * m + k) ∧ zA σ 0 54 (200 * m + k) < zA σ 0 44 m)) ∧ (∀ k : Int, 0 ≤ k → k < zA σ 0 56 m → (0 ≤ zA σ 0 58 (80 * m + k) ∧ zA σ 0 58 (80 * m + k) < zA σ 0 44 m) ∧ (0 ≤ zA σ 0 59 (80 * m + k) ∧ zA σ 0 59 (80 * m + k) ≤ 62000))
theorem MI.ou {σ τ : ZS} {m n : Int} (h : MI σ n) (k : OU m σ τ) (hm : 0 ≤ m ∧ m ≤ 2) (hn : 0 ≤ n ∧ n ≤ 2) (hne : n ≠ m) : MI τ n := by
  obtain ⟨⟨h1, h2, h3⟩, h4, h5, h6⟩ := h
  obtain ⟨a1, a2, a3, a4⟩ := k
  obtain ⟨-, e44, e50, e56⟩ := a1 n hne
  refine ⟨⟨by rw [e44]; exact h1, by rw [e50]; exact h2, by rw [e56]; exact h3⟩, fun s s0 s1 => ?_, fun j j0 j1 => ?_, fun j j0 j1 => ?_⟩
  · rw [e44] at s1
    obtain ⟨x1, x2, x3⟩ := a2 (24 * n + s) (by omega)
    rw [x1, x2, x3]; exact h4 s s0 s1
  · rw [e50] at j1
    obtain ⟨x1, x2, x3, x4⟩ := a3 (200 * n + j) (by omega)
    have hj := h5 j j0 j1
    obtain ⟨-, -, y3⟩ := a2 (24 * n + zA σ 0 52 (200 * n + j)) (by omega)
    rw [x1, x2, x3, x4, e44, y3]; exact hj
  · rw [e56] at j1
    obtain ⟨x1, x2⟩ := a4 (80 * n + j) (by omega)
    rw [x1, x2, e44]; exact h6 j j0 j1
def GM (σ : ZS) : Prop := (∀ i : Int, 0 ≤ i → i < 72 → 0 ≤ zA σ 0 45 i ∧ zA σ 0 45 i ≤ 72057594037927936) ∧ (∀ i : Int, 0 ≤ i → i < 600 → 0 ≤ zA σ 0 55 i ∧ zA σ 0 55 i ≤ 72057594037927936) ∧ (∀ i : Int, 0 ≤ i → i < 240 → 0 ≤ zA σ 0 57 i ∧ zA σ 0 57 i ≤ 72057594037927936) ∧ (∀ i : Int, 0 ≤ i → i < 1200 → 0 ≤ zA σ 0 49 i ∧ zA σ 0 49 i ≤ 255) ∧ (∀ i : Int, 0 ≤ i → i < 3 → 0 ≤ zA σ 0 43 i ∧ zA σ 0 43 i ≤ 1)
/-- what is known when a module is written -/
def WC (β : ZS) : Prop := G1 β ∧ G2 β ∧ G3 β ∧ OFs β ∧ Lyp β ∧ Sg β ∧ zI β 0 34 ≤ 24 ∧ (∀ s : Int, 0 ≤ s → s < zI β 0 34 → (0 ≤ zA β 0 35 s ∧ zA β 0 35 s < 240) ∧ 1 ≤ zA β 0 15 (zA β 0 35 s)) ∧ psum (zA β 0 36) (zI β 0 34).toNat ≤ 400 ∧ (∀ j : Int, 0 ≤ j → j < zI β 0 31 → zA β 0 24 j = 4 → zA β 0 13 (zA β 0 25 j) = 3 → zA β 0 30 j = 1) ∧ (∀ p : Int, 0 ≤ p → p < zI β 0 31 → zA β 0 24 p = 2 ∨ zA β 0 24 p = 3 → -1 ≤ zA β 0 14 (zA β 0 25 p) ∧ (zA β 0 13 (zA β 0 25 p) ≠ 3 → zA β 0 14 (zA β 0 25 p) < zI β 0 34)) ∧ (∀ u : Int, 0 ≤ u → u < zI β 0 23 → zA β 0 19 u = 0 → 0 ≤ zA β 0 14 (zA β 0 20 u) ∧ zA β 0 14 (zA β 0 20 u) < zI β 0 34) ∧ (0 ≤ zI β 0 23 ∧ zI β 0 23 ≤ 480) ∧ 7 * cntP (zA β 0 19) (zI β 0 23).toNat ≤ 480
def FX (β : ZS) (m : Int) (τ : ZS) : Prop := ∀ k : Int, 0 ≤ k → k < zA τ 0 50 m → (0 ≤ zA τ 0 51 (200 * m + k) ∧ zA τ 0 51 (200 * m + k) ≤ 2) ∧ (0 ≤ zA τ 0 52 (200 * m + k) ∧ zA τ 0 52 (200 * m + k) < zI β 0 34) ∧ 0 ≤ zA τ 0 53 (200 * m + k) ∧ zA τ 0 53 (200 * m + k) + 2 ≤ zA β 0 36 (zA τ 0 52 (200 * m + k)) ∧ (-1 ≤ zA τ 0 54 (200 * m + k) ∧ zA τ 0 54 (200 * m + k) < zI β 0 34)
def MT (β : ZS) (m : Int) (τ : ZS) : Prop := ∀ s : Int, 0 ≤ s → s < zI β 0 34 → zA τ 0 47 (24 * m + s) = psum (zA β 0 36) s.toNat ∧ zA τ 0 48 (24 * m + s) = zA β 0 36 s
abbrev UA : List Nat := [49, 50, 51, 52, 53, 54, 55]
/-- while pieces are put -/
def PU (β : ZS) (m : Int) (τ υ : ZS) (c : Int) : Prop := fr [] UA τ υ ∧ OU m τ υ ∧ GM υ ∧ FX β m υ ∧ zA υ 0 50 m = c
theorem s_put {β τ : ZS} {m p : Int} {Q : ZS → Prop} (hW : WC β) (hm : 0 ≤ m ∧ m ≤ 2) (hp : 0 ≤ p ∧ p < zI β 0 31) (hf : fr [] WA β τ) (hT : MT β m τ) (hM : GM τ) (hX : FX β m τ) (hc : 0 ≤ zA τ 0 50 m ∧ 2 * zA τ 0 50 m ≤ psum (szp β) p.toNat) (hQ : ∀ υ : ZS, fr [] UA τ υ → OU m τ υ → GM υ → FX β m υ → (0 ≤ zA υ 0 50 m ∧ 2 * zA υ 0 50 m ≤ psum (szp β) (p + 1).toNat) → Q υ) : wpX11_put m p τ Q := by
  obtain ⟨w1, w2, w3, wO, wL, wS, w24, wal, wsum, wne, wab, wpb, wus, wcn⟩ := hW
  obtain ⟨s31, s34, sg⟩ := wS
  obtain ⟨q1, q2, q3, q4, q5, q6, q7, q8⟩ := w3 p hp.1 (by omega)
  have hs := sg p hp.1 hp.2
  have hat := wL.2.1 p hp.1 hp.2
  have hzb := szp_bd w3 hp.1 (by omega)
  have hstep : psum (szp β) (p + 1).toNat = psum (szp β) p.toNat + szp β p := by
    rw [show (p + 1).toNat = p.toNat + 1 by omega]
    show psum (szp β) p.toNat + szp β ((p.toNat : Nat) : Int) = _
    rw [show ((p.toNat : Nat) : Int) = p by omega]
  have hnn : ∀ j : Int, 0 ≤ j → j < ((zI β 0 34).toNat : Int) → 0 ≤ zA β 0 36 j := fun j a b => (wL.1 j a (by omega)).1
  have hmono : psum (szp β) (p + 1).toNat ≤ psum (szp β) (zI β 0 31).toNat := psum_mono _ (by omega) (fun j a b => (szp_bd w3 a (by omega)).1)
  have hbeg : 0 ≤ psum (zA β 0 36) (zA β 0 28 p).toNat ∧ psum (zA β 0 36) (zA β 0 28 p).toNat + zA β 0 36 (zA β 0 28 p) ≤ 400 := by
    refine ⟨psum_nn _ (fun j a b => hnn j a (by omega)), ?_⟩
    have h1 := psum_mono (f := zA β 0 36) (m := (zA β 0 28 p).toNat + 1) (zI β 0 34).toNat (by omega) hnn
    have h2 : psum (zA β 0 36) ((zA β 0 28 p).toNat + 1) = psum (zA β 0 36) (zA β 0 28 p).toNat + zA β 0 36 (((zA β 0 28 p).toNat : Nat) : Int) := rfl
    rw [show (((zA β 0 28 p).toNat : Nat) : Int) = zA β 0 28 p by omega] at h2
    omega
  have b : ∀ j : Nat, j ∉ WA → zA τ 0 j = zA β 0 j := hf.2
  have PU0 : PU β m τ τ (zA τ 0 50 m) := ⟨fr.rf, OU.rf, hM, hX, rfl⟩
  have hUW : ∀ j ∈ UA, j ∈ WA := by decide
  have keep : ∀ (υ : ZS) (c : Int), PU β m τ υ c → ∀ j : Nat, j ∉ WA → zA υ 0 j = zA β 0 j := fun υ c h j hj => (h.1.2 j (fun q => hj (hUW j q))).trans (b j hj)
  have fin : ∀ (υ : ZS) (c : Int), PU β m τ υ c → 0 ≤ c → 2 * c ≤ psum (szp β) p.toNat + szp β p → Q υ := fun υ c h c0 c1 => hQ υ h.1 h.2.1 h.2.2.1 h.2.2.2.1 (by rw [h.2.2.2.2, hstep]; exact ⟨c0, c1⟩)
  -- a byte
  have set : ∀ (υ : ZS) (c o bb : Int) (R : ZS → Prop), PU β m τ υ c → 0 ≤ o → o < zA β 0 36 (zA β 0 28 p) → (∀ ω : ZS, PU β m τ ω c → R ω) → wpX11_set m (zA β 0 28 p) o bb υ R := by
    intro υ c o bb R hP o0 o1 hR
    obtain ⟨hPf, hPo, hPm, hPx, hPc⟩ := hP
    have e47 : zA υ 0 47 (24 * m + zA β 0 28 p) = psum (zA β 0 36) (zA β 0 28 p).toNat := by rw [hPf.2 47 (by decide)]; exact (hT _ hs.1 hs.2).1
    unfold wpX11_set
    rw [e47]
    refine ⟨by omega, by omega, hR _ ⟨hPf.ta (by decide), hPo, ?_, hPx, hPc⟩⟩
    obtain ⟨g1, g2, g3, g4, g5⟩ := hPm
    refine ⟨g1, g2, g3, fun i i0 i1 => ?_, g5⟩
    show 0 ≤ zu (zA υ 0 49) (400 * m + psum (zA β 0 36) (zA β 0 28 p).toNat + o) (bb % 256) i ∧ zu (zA υ 0 49) (400 * m + psum (zA β 0 36) (zA β 0 28 p).toNat + o) (bb % 256) i ≤ 255
    by_cases e : i = 400 * m + psum (zA β 0 36) (zA β 0 28 p).toNat + o
    · rw [e, pu_eq]; omega
    · rw [pu_ne e]; exact g4 i i0 i1
  -- a fixup
  have fix : ∀ (υ : ZS) (k o n : Int) (R : ZS → Prop), PU β m τ υ (zA τ 0 50 m) → (0 ≤ k ∧ k ≤ 2) → 0 ≤ o → o + 2 ≤ zA β 0 36 (zA β 0 28 p) → (0 ≤ n ∧ n < 240) → -1 ≤ zA β 0 14 n → (zA β 0 13 n ≠ 3 → zA β 0 14 n < zI β 0 34) → 2 ≤ szp β p → (∀ ω : ZS, PU β m τ ω (zA τ 0 50 m + 1) → R ω) → wpX11_fix m k (zA β 0 28 p) o n υ R := by
    intro υ k o n R hP hk o0 o1 hn ha1 ha2 hz2 hR
    have ku := keep υ _ hP
    obtain ⟨hPf, hPo, hPm, hPx, hPc⟩ := hP
    have hlim : zA τ 0 50 m ≤ 199 := by
      have := wL.2.2
      omega
    have hso := (w1 n hn.1 hn.2).1
    have hnm := (w1 n hn.1 hn.2).2.2.2
    have go : ∀ ab : Int, -1 ≤ ab → ab < zI β 0 34 → wpX11_fix_67 m n (200 * m + zA τ 0 50 m) ab (200 * m + zA τ 0 50 m) (zsA (zsA (zsA υ 0 51 (200 * m + zA τ 0 50 m) k) 0 52 (200 * m + zA τ 0 50 m) (zA β 0 28 p)) 0 53 (200 * m + zA τ 0 50 m) o) R := by
      intro ab a0 a1
      unfold wpX11_fix_67
      refine ⟨by omega, hn, by omega, by omega, hR _ ⟨((((((hPf.ta (by decide)).ta (by decide)).ta (by decide)).ta (by decide)).ta (by decide)).ta (by decide)), ?_, ?_, ?_, ?_⟩⟩
      · obtain ⟨o1', o2', o3', o4'⟩ := hPo
        refine ⟨fun j hj => ?_, o2', fun f hf' => ?_, o4'⟩
        · obtain ⟨x1, x2, x3, x4⟩ := o1' j hj
          refine ⟨x1, x2, ?_, x4⟩
          show zu (zA υ 0 50) m _ j = _
          rw [pu_ne hj]; exact x3
        · obtain ⟨x1, x2, x3, x4⟩ := o3' f hf'
          have hne : f ≠ 200 * m + zA τ 0 50 m := by omega
          refine ⟨?_, ?_, ?_, ?_⟩
          · show zu (zA υ 0 51) _ _ f = _; rw [pu_ne hne]; exact x1
          · show zu (zA υ 0 52) _ _ f = _; rw [pu_ne hne]; exact x2
          · show zu (zA υ 0 53) _ _ f = _; rw [pu_ne hne]; exact x3
          · show zu (zA υ 0 54) _ _ f = _; rw [pu_ne hne]; exact x4
      · obtain ⟨g1, g2, g3, g4, g5⟩ := hPm
        refine ⟨g1, fun i i0 i1 => ?_, g3, g4, g5⟩
        show 0 ≤ zu (zA υ 0 55) (200 * m + zA τ 0 50 m) (zA υ 0 12 n) i ∧ zu (zA υ 0 55) (200 * m + zA τ 0 50 m) (zA υ 0 12 n) i ≤ 72057594037927936
        by_cases e : i = 200 * m + zA τ 0 50 m
        · rw [e, pu_eq, ku 12 (by decide)]; exact hnm
        · rw [pu_ne e]; exact g2 i i0 i1
      · intro j j0 j1
        have e50 : zA (zsA (zsA (zsA (zsA (zsA (zsA υ 0 51 (200 * m + zA τ 0 50 m) k) 0 52 (200 * m + zA τ 0 50 m) (zA β 0 28 p)) 0 53 (200 * m + zA τ 0 50 m) o) 0 54 (200 * m + zA τ 0 50 m) ab) 0 55 (200 * m + zA τ 0 50 m) (zA (zsA (zsA (zsA υ 0 51 (200 * m + zA τ 0 50 m) k) 0 52 (200 * m + zA τ 0 50 m) (zA β 0 28 p)) 0 53 (200 * m + zA τ 0 50 m) o) 0 12 n)) 0 50 m (zA (zsA (zsA (zsA υ 0 51 (200 * m + zA τ 0 50 m) k) 0 52 (200 * m + zA τ 0 50 m) (zA β 0 28 p)) 0 53 (200 * m + zA τ 0 50 m) o) 0 50 m + 1)) 0 50 m = zA υ 0 50 m + 1 := pu_eq (h := zA υ 0 50)
        rw [e50, hPc] at j1
        show (0 ≤ zu (zA υ 0 51) (200 * m + zA τ 0 50 m) k (200 * m + j) ∧ zu (zA υ 0 51) (200 * m + zA τ 0 50 m) k (200 * m + j) ≤ 2) ∧ (0 ≤ zu (zA υ 0 52) (200 * m + zA τ 0 50 m) (zA β 0 28 p) (200 * m + j) ∧ zu (zA υ 0 52) (200 * m + zA τ 0 50 m) (zA β 0 28 p) (200 * m + j) < zI β 0 34) ∧ 0 ≤ zu (zA υ 0 53) (200 * m + zA τ 0 50 m) o (200 * m + j) ∧ zu (zA υ 0 53) (200 * m + zA τ 0 50 m) o (200 * m + j) + 2 ≤ zA β 0 36 (zu (zA υ 0 52) (200 * m + zA τ 0 50 m) (zA β 0 28 p) (200 * m + j)) ∧ (-1 ≤ zu (zA υ 0 54) (200 * m + zA τ 0 50 m) ab (200 * m + j) ∧ zu (zA υ 0 54) (200 * m + zA τ 0 50 m) ab (200 * m + j) < zI β 0 34)
        by_cases e : j = zA τ 0 50 m
        · rw [e, pu_eq, pu_eq, pu_eq, pu_eq]; exact ⟨hk, hs, o0, o1, a0, a1⟩
        · have hne : 200 * m + j ≠ 200 * m + zA τ 0 50 m := by omega
          rw [pu_ne hne, pu_ne hne, pu_ne hne, pu_ne hne]
          exact hPx j j0 (by omega)
      · show zu (zA υ 0 50) m (zA υ 0 50 m + 1) m = _
        rw [pu_eq, hPc]
    unfold wpX11_fix
    rw [hPc, ku 13 (by decide), ku 14 (by decide)]
    exact ⟨by omega, by omega, hn, by omega, fun n3 => go _ ha1 (ha2 n3), fun _ => go (-1) (by decide) (by omega)⟩
  -- two bytes
  have two : ∀ (υ : ZS) (c o v sk : Int), PU β m τ υ c → 0 ≤ c → 2 * c ≤ psum (szp β) p.toNat + szp β p → 0 ≤ o + sk → o + sk + 1 < zA β 0 36 (zA β 0 28 p) → (-2147483648 ≤ v ∧ v ≤ 2147483647) → wpX11_put_320 m (zA β 0 28 p) o v sk υ Q := by
    intro υ c o v sk hP c0 c1 o0 o1 hv
    unfold wpX11_put_320
    refine set υ c _ _ _ hP o0 (by omega) (fun ω hω => ⟨hv, set ω c _ _ _ hω (by omega) (by omega) (fun ψ hψ => fin ψ c hψ c0 c1)⟩)
  have dist : ∀ (υ : ZS) (c : Int) (R : Int → ZS → Prop), PU β m τ υ c → (0 ≤ zA β 0 25 p ∧ zA β 0 25 p < 240) → (∀ d : Int, -1000000 ≤ d → d ≤ 1000000 → R d υ) → wpX11_distance p υ R := by
    intro υ c R hP hn hR
    have ku := keep υ c hP
    have h3u : G3 υ := by unfold G3; rw [ku 24 (by decide), ku 25 (by decide), ku 26 (by decide), ku 27 (by decide), ku 28 (by decide), ku 30 (by decide)]; exact w3
    have hsz := szp_eq (ku 24 (by decide)) (ku 25 (by decide)) (ku 30 (by decide))
    refine s_distance h3u (by omega) (by rw [ku 25 (by decide)]; exact hn) (hR _ ?_ ?_)
    · rw [ku 25 (by decide), ku 16 (by decide), ku 29 (by decide), hsz]
      have := wO (zA β 0 25 p) hn.1 hn.2
      omega
    · rw [ku 25 (by decide), ku 16 (by decide), ku 29 (by decide), hsz]
      have := wO (zA β 0 25 p) hn.1 hn.2
      omega
  have hszv : szp β p = szf (zA β 0 24 p) (zA β 0 25 p) (zA β 0 30 p) := rfl
  have hc1 := hc.1
  -- jumps and calls
  have f183 : zA β 0 24 p = 4 ∨ zA β 0 24 p = 6 → wpX11_put_183 m p (zA β 0 28 p) (zA β 0 29 p) (zA β 0 25 p) τ Q := by
    intro h46
    have hn := q2 (by omega) (by omega)
    have hso := (w1 _ hn.1 hn.2).1
    have f208 : ∀ s0 : Int, (s0 = 0 ∨ s0 = 1) → (s0 = 0 → szp β p = 2 ∧ zA β 0 13 (zA β 0 25 p) ≠ 3) → (s0 = 1 → szp β p = 3) → wpX11_put_208 m p (zA β 0 28 p) (zA β 0 29 p) (zA β 0 25 p) s0 τ Q := by
      intro s0 h01 hz0 hz1
      have f246 : ∀ by_ : Int, wpX11_put_246 m p (zA β 0 28 p) (zA β 0 29 p) (zA β 0 25 p) s0 by_ (zA β 0 29 p) (zA β 0 28 p) m τ Q := by
        intro by_
        unfold wpX11_put_246
        refine set τ _ _ _ _ PU0 hat.1 (by omega) (fun υ hυ => ?_)
        have ku := keep υ _ hυ
        have f295 : ∀ (ω : ZS) (c v : Int), PU β m τ ω c → 0 ≤ c → 2 * c ≤ psum (szp β) p.toNat + szp β p → (-1000000 ≤ v ∧ v ≤ 1000000) → wpX11_put_295 m (zA β 0 28 p) (zA β 0 29 p) v s0 ω Q := by
          intro ω c v hω c0 c1 hv
          unfold wpX11_put_295
          refine ⟨by omega, fun n0 => two ω c _ _ _ hω c0 c1 (by omega) (by have := hz1 (by omega); omega) (by omega), fun e0 => set ω c _ _ _ hω (by omega) (by have := hz0 e0; omega) (fun ψ hψ => fin ψ c hψ c0 c1)⟩
        have f269 : ∀ v : Int, -1000000 ≤ v → v ≤ 1000000 → wpX11_put_269 m (zA β 0 28 p) (zA β 0 29 p) (zA β 0 25 p) s0 v υ Q := by
          intro v v0 v1
          unfold wpX11_put_269
          rw [ku 13 (by decide)]
          refine ⟨hn, by omega, fun _ => f295 υ _ v hυ hc1 (by omega) ⟨v0, v1⟩, fun e3 => ?_⟩
          have z3 : szp β p = 3 := by
            rcases h01 with h | h
            · exact absurd e3 (hz0 h).2
            · exact hz1 h
          exact fix υ 2 _ _ _ hυ (by decide) (by omega) (by omega) hn (w1 _ hn.1 hn.2).2.1.1 (fun q => absurd e3 q) (by omega) (fun ω hω => f295 ω _ v hω (by omega) (by omega) ⟨v0, v1⟩)
        rw [ku 13 (by decide)]
        exact ⟨hn, by omega, fun _ => dist υ _ _ hυ hn (fun d d0 d1 => f269 d d0 d1), fun _ => f269 0 (by decide) (by decide)⟩
      unfold wpX11_put_208
      rw [b 24 (by decide)]
      exact ⟨by omega, by omega, fun _ => ⟨by omega, fun _ => f246 235, fun _ => f246 233⟩, fun _ => f246 232⟩
    unfold wpX11_put_183 wpX11_put_203
    rw [b 24 (by decide), b 30 (by decide)]
    refine ⟨by omega, by omega, fun e6 => f208 1 (Or.inr rfl) (fun q => absurd q (by decide)) (fun _ => by rw [hszv, e6]; rfl), fun n6 => ⟨by omega, fun z => ?_, fun nz => ?_⟩⟩
    · have e4 : zA β 0 24 p = 4 := by omega
      refine f208 0 (Or.inl rfl) (fun _ => ⟨by rw [hszv, e4, z]; rfl, fun e3 => ?_⟩) (fun q => absurd q (by decide))
      have := wne p hp.1 hp.2 e4 e3
      omega
    · have e4 : zA β 0 24 p = 4 := by omega
      refine f208 1 (Or.inr rfl) (fun q => absurd q (by decide)) (fun _ => ?_)
      rw [hszv, e4, show zA β 0 30 p = 1 by omega]; rfl
  have z1 : zA β 0 24 p = 0 → szp β p = 1 := fun e => by rw [hszv, e]; rfl
  unfold wpX11_put
  rw [b 24 (by decide), b 28 (by decide), b 29 (by decide), b 25 (by decide), b 13 (by decide), b 16 (by decide), b 26 (by decide)]
  refine ⟨by omega, by omega, fun e => set τ _ _ _ _ PU0 hat.1 (by have := z1 e; omega) (fun υ hυ => fin υ _ hυ hc1 (by omega)), fun n0 => ⟨fun e => ?_, fun n1 => ⟨fun e => ?_, fun n2 => ⟨fun e => ?_, fun n3 => ⟨fun e => f183 (Or.inl e), fun n4 => ⟨fun e => ?_, fun n5 => ⟨fun e => f183 (Or.inr e), fun n6 => fin τ _ PU0 hc1 (by omega)⟩⟩⟩⟩⟩⟩⟩
  · have z2 : szp β p = 2 := by rw [hszv, e]; rfl
    exact two τ _ _ _ _ PU0 hc1 (by omega) (by omega) (by omega) (by omega)
  · have z2 : szp β p = 2 := by rw [hszv, e]; rfl
    have hn := q2 (by omega) (by omega)
    have hso := (w1 _ hn.1 hn.2).1
    have hof := wO _ hn.1 hn.2
    have hab := wab p hp.1 hp.2 (Or.inl e)
    have f122 : ∀ s1 s0 : Int, -30000000 ≤ s1 + s0 → s1 + s0 ≤ 30000000 → wpX11_put_122 m (zA β 0 28 p) (zA β 0 29 p) (zA β 0 25 p) 0 s1 s0 τ Q := by
      intro s1 s0 z0 z1
      unfold wpX11_put_122
      exact fix τ 0 _ _ _ PU0 (by decide) hat.1 (by omega) hn hab.1 hab.2 (by omega) (fun ω hω => two ω _ _ _ _ hω (by omega) (by omega) (by omega) (by omega) (by omega))
    exact ⟨hn, by omega, fun _ => f122 _ _ (by omega) (by omega), fun _ => f122 _ _ (by omega) (by omega)⟩
  · have z2 : szp β p = 2 := by rw [hszv, e]; rfl
    have hn := q2 (by omega) (by omega)
    have hab := wab p hp.1 hp.2 (Or.inr e)
    exact fix τ 1 _ _ _ PU0 (by decide) hat.1 (by omega) hn hab.1 hab.2 (by omega) (fun ω hω => two ω _ _ _ _ hω (by omega) (by omega) (by omega) (by omega) (by decide))
  · have z2 : szp β p = 2 := by rw [hszv, e]; rfl
    have hn := q2 (by omega) (by omega)
    exact set τ _ _ _ _ PU0 hat.1 (by omega) (fun υ hυ => dist υ _ _ hυ hn (fun d d0 d1 => set υ _ _ _ _ hυ (by omega) (by omega) (fun ψ hψ => fin ψ _ hψ hc1 (by omega))))
/-! P: a module is written, whole -/
theorem OU.u43 {m v : Int} {σ τ : ZS} (h : OU m σ τ) : OU m σ (zsA τ 0 43 m v) := h.tr ⟨fun _ hj => ⟨pu_ne hj, rfl, rfl, rfl⟩, fun _ _ => ⟨rfl, rfl, rfl⟩, fun _ _ => ⟨rfl, rfl, rfl, rfl⟩, fun _ _ => ⟨rfl, rfl⟩⟩
theorem OU.u44 {m v : Int} {σ τ : ZS} (h : OU m σ τ) : OU m σ (zsA τ 0 44 m v) := h.tr ⟨fun _ hj => ⟨rfl, pu_ne hj, rfl, rfl⟩, fun _ _ => ⟨rfl, rfl, rfl⟩, fun _ _ => ⟨rfl, rfl, rfl, rfl⟩, fun _ _ => ⟨rfl, rfl⟩⟩
theorem OU.u50 {m v : Int} {σ τ : ZS} (h : OU m σ τ) : OU m σ (zsA τ 0 50 m v) := h.tr ⟨fun _ hj => ⟨rfl, rfl, pu_ne hj, rfl⟩, fun _ _ => ⟨rfl, rfl, rfl⟩, fun _ _ => ⟨rfl, rfl, rfl, rfl⟩, fun _ _ => ⟨rfl, rfl⟩⟩
theorem OU.u56 {m v : Int} {σ τ : ZS} (h : OU m σ τ) : OU m σ (zsA τ 0 56 m v) := h.tr ⟨fun _ hj => ⟨rfl, rfl, rfl, pu_ne hj⟩, fun _ _ => ⟨rfl, rfl, rfl⟩, fun _ _ => ⟨rfl, rfl, rfl, rfl⟩, fun _ _ => ⟨rfl, rfl⟩⟩
theorem OU.u45 {m i v : Int} {σ τ : ZS} (h : OU m σ τ) : OU m σ (zsA τ 0 45 i v) := h
theorem OU.u49 {m i v : Int} {σ τ : ZS} (h : OU m σ τ) : OU m σ (zsA τ 0 49 i v) := h
theorem OU.u57 {m i v : Int} {σ τ : ZS} (h : OU m σ τ) : OU m σ (zsA τ 0 57 i v) := h
theorem OU.u46 {m i v : Int} {σ τ : ZS} (h : OU m σ τ) (hi : 24 * m ≤ i ∧ i < 24 * m + 24) : OU m σ (zsA τ 0 46 i v) := h.tr ⟨fun _ _ => ⟨rfl, rfl, rfl, rfl⟩, fun _ hj => ⟨pu_ne (by omega), rfl, rfl⟩, fun _ _ => ⟨rfl, rfl, rfl, rfl⟩, fun _ _ => ⟨rfl, rfl⟩⟩
theorem OU.u47 {m i v : Int} {σ τ : ZS} (h : OU m σ τ) (hi : 24 * m ≤ i ∧ i < 24 * m + 24) : OU m σ (zsA τ 0 47 i v) := h.tr ⟨fun _ _ => ⟨rfl, rfl, rfl, rfl⟩, fun _ hj => ⟨rfl, pu_ne (by omega), rfl⟩, fun _ _ => ⟨rfl, rfl, rfl, rfl⟩, fun _ _ => ⟨rfl, rfl⟩⟩
theorem OU.u48 {m i v : Int} {σ τ : ZS} (h : OU m σ τ) (hi : 24 * m ≤ i ∧ i < 24 * m + 24) : OU m σ (zsA τ 0 48 i v) := h.tr ⟨fun _ _ => ⟨rfl, rfl, rfl, rfl⟩, fun _ hj => ⟨rfl, rfl, pu_ne (by omega)⟩, fun _ _ => ⟨rfl, rfl, rfl, rfl⟩, fun _ _ => ⟨rfl, rfl⟩⟩
theorem OU.u58 {m i v : Int} {σ τ : ZS} (h : OU m σ τ) (hi : 80 * m ≤ i ∧ i < 80 * m + 80) : OU m σ (zsA τ 0 58 i v) := h.tr ⟨fun _ _ => ⟨rfl, rfl, rfl, rfl⟩, fun _ _ => ⟨rfl, rfl, rfl⟩, fun _ _ => ⟨rfl, rfl, rfl, rfl⟩, fun _ hj => ⟨pu_ne (by omega), rfl⟩⟩
theorem OU.u59 {m i v : Int} {σ τ : ZS} (h : OU m σ τ) (hi : 80 * m ≤ i ∧ i < 80 * m + 80) : OU m σ (zsA τ 0 59 i v) := h.tr ⟨fun _ _ => ⟨rfl, rfl, rfl, rfl⟩, fun _ _ => ⟨rfl, rfl, rfl⟩, fun _ _ => ⟨rfl, rfl, rfl, rfl⟩, fun _ hj => ⟨rfl, pu_ne (by omega)⟩⟩
theorem rng_zu {h : Int → Int} {i v n lo hi : Int} (hh : ∀ j : Int, 0 ≤ j → j < n → lo ≤ h j ∧ h j ≤ hi) (hv : lo ≤ v ∧ v ≤ hi) : ∀ j : Int, 0 ≤ j → j < n → lo ≤ zu h i v j ∧ zu h i v j ≤ hi := by
  intro j j0 j1
  by_cases e : j = i
  · rw [e, pu_eq]; exact hv
  · rw [pu_ne e]; exact hh j j0 j1
theorem GM.u43 {σ : ZS} {i v : Int} (h : GM σ) (hv : 0 ≤ v ∧ v ≤ 1) : GM (zsA σ 0 43 i v) := ⟨h.1, h.2.1, h.2.2.1, h.2.2.2.1, rng_zu h.2.2.2.2 hv⟩
theorem GM.u45 {σ : ZS} {i v : Int} (h : GM σ) (hv : 0 ≤ v ∧ v ≤ 72057594037927936) : GM (zsA σ 0 45 i v) := ⟨rng_zu h.1 hv, h.2⟩
theorem GM.u49 {σ : ZS} {i v : Int} (h : GM σ) (hv : 0 ≤ v ∧ v ≤ 255) : GM (zsA σ 0 49 i v) := ⟨h.1, h.2.1, h.2.2.1, rng_zu h.2.2.2.1 hv, h.2.2.2.2⟩
theorem GM.u57 {σ : ZS} {i v : Int} (h : GM σ) (hv : 0 ≤ v ∧ v ≤ 72057594037927936) : GM (zsA σ 0 57 i v) := ⟨h.1, h.2.1, rng_zu h.2.2.1 hv, h.2.2.2⟩
theorem cntP_mono {h : Int → Int} {m : Nat} : ∀ n : Nat, m ≤ n → cntP h m ≤ cntP h n
  | 0, q => by rw [show m = 0 by omega]; exact Int.le_refl _
  | n + 1, q => by
    by_cases e : m = n + 1
    · rw [e]; exact Int.le_refl _
    · have := cntP_mono (h := h) (m := m) n (by omega)
      show cntP h m ≤ cntP h n + (if h n = 0 then 1 else 0)
      split <;> omega
def WI (β : ZS) (m : Int) (τ : ZS) : Prop := fr [] WA β τ ∧ OU m β τ ∧ GM τ ∧ zA τ 0 44 m = zI β 0 34
def MS (β : ZS) (m : Int) (τ : ZS) (n : Int) : Prop := ∀ s : Int, 0 ≤ s → s < n → zA τ 0 47 (24 * m + s) = psum (zA β 0 36) s.toNat ∧ zA τ 0 48 (24 * m + s) = zA β 0 36 s ∧ 1 ≤ zA τ 0 46 (24 * m + s) ∧ zA τ 0 46 (24 * m + s) ≤ 16
def PB (β : ZS) (m : Int) (τ : ZS) : Prop := ∀ k : Int, 0 ≤ k → k < zA τ 0 56 m → (0 ≤ zA τ 0 58 (80 * m + k) ∧ zA τ 0 58 (80 * m + k) < zI β 0 34) ∧ (0 ≤ zA τ 0 59 (80 * m + k) ∧ zA τ 0 59 (80 * m + k) ≤ 62000)
theorem s_write {β : ZS} {m : Int} {Q : ZS → Prop} (hW : WC β) (hM : GM β) (hm : 0 ≤ m ∧ m ≤ 2) (hQ : ∀ τ : ZS, fr [] WA β τ → OU m β τ → GM τ → MI τ m → Q τ) : wpX11_write m β Q := by
  have hWC := hW
  obtain ⟨w1, w2, w3, wO, wL, wS, w24, wal, wsum, wne, wab, wpb, wus, wcn⟩ := hW
  obtain ⟨s31, s34, sg⟩ := wS
  have hnn : ∀ j : Int, 0 ≤ j → j < ((zI β 0 34).toNat : Int) → 0 ≤ zA β 0 36 j := fun j a b => (wL.1 j a (by omega)).1
  have hps : ∀ s : Int, 0 ≤ s → psum (zA β 0 36) (s + 1).toNat = psum (zA β 0 36) s.toNat + zA β 0 36 s := by
    intro s s0
    rw [show (s + 1).toNat = s.toNat + 1 by omega]
    show psum (zA β 0 36) s.toNat + zA β 0 36 ((s.toNat : Nat) : Int) = _
    rw [show ((s.toNat : Nat) : Int) = s by omega]
  have hpm : ∀ s : Int, 0 ≤ s → s ≤ zI β 0 34 → 0 ≤ psum (zA β 0 36) s.toNat ∧ psum (zA β 0 36) s.toNat ≤ 400 := by
    intro s s0 s1
    have := psum_mono (f := zA β 0 36) (m := s.toNat) (zI β 0 34).toNat (by omega) hnn
    exact ⟨psum_nn _ (fun j a b => hnn j a (by omega)), by omega⟩
  -- the publics
  have f183 : ∀ τ : ZS, WI β m τ → MS β m τ (zI β 0 34) → FX β m τ → (0 ≤ zA τ 0 50 m ∧ zA τ 0 50 m ≤ 200) → zA τ 0 56 m = 0 → wpX11_write_183 m 0 τ Q := by
    intro τ0 h0 hS0 hX0 hc0 he0
    unfold wpX11_write_183
    refine lfp1_ind (fun v _ => (zI β 0 23 - v).toNat) (fun v τ => WI β m τ ∧ MS β m τ (zI β 0 34) ∧ FX β m τ ∧ (0 ≤ zA τ 0 50 m ∧ zA τ 0 50 m ≤ 200) ∧ (0 ≤ v ∧ v ≤ zI β 0 23) ∧ zA τ 0 56 m = cntP (zA β 0 19) v.toNat ∧ PB β m τ) ?_ ⟨h0, hS0, hX0, hc0, by omega, he0, fun k k0 k1 => absurd k1 (by rw [he0]; omega)⟩
    intro P v τ ⟨hI, hS, hX, hc, hv, h56, hP⟩ ih
    obtain ⟨hf, hO, hG, h44⟩ := hI
    have b := hf.2
    have i23 : zI τ 0 23 = zI β 0 23 := hf.1 23 (by decide)
    have hcl := cntP_le (h := zA β 0 19) v.toNat
    show wpbX11_write_183 P m v τ Q
    unfold wpbX11_write_183 wpX11_write_280
    rw [i23, b 19 (by decide), b 20 (by decide), b 12 (by decide), b 14 (by decide), b 16 (by decide)]
    refine ⟨by omega, by omega, fun e => ?_, fun ne => ?_⟩
    · have hev : v = zI β 0 23 := by omega
      rw [hev] at h56 hcl
      refine hQ τ hf hO hG ⟨⟨by omega, hc, by omega⟩, fun s s0 s1 => ?_, fun k k0 k1 => ?_, fun k k0 k1 => ?_⟩
      · rw [h44] at s1
        obtain ⟨x1, x2, x3, x4⟩ := hS s s0 s1
        rw [x1, x2]
        have h1 := hpm s s0 (by omega)
        have h2 := hpm (s + 1) (by omega) (by omega)
        have h3 := hps s s0
        have h4 := wL.1 s s0 s1
        exact ⟨h1.1, h4.1, by omega, x3, x4⟩
      · obtain ⟨y1, y2, y3, y4, y5⟩ := hX k k0 k1
        rw [h44]
        refine ⟨y1, y2, y3, ?_, y5⟩
        rw [(hS _ y2.1 y2.2).2.1]; exact y4
      · rw [h44]; exact hP k k0 k1
    · have hu := w2 v hv.1 (by omega)
      have hcv : cntP (zA β 0 19) (v + 1).toNat = cntP (zA β 0 19) v.toNat + (if zA β 0 19 v = 0 then 1 else 0) := by
        rw [show (v + 1).toNat = v.toNat + 1 by omega]
        show cntP (zA β 0 19) v.toNat + (if zA β 0 19 ((v.toNat : Nat) : Int) = 0 then 1 else 0) = _
        rw [show ((v.toNat : Nat) : Int) = v by omega]
      have hcm := cntP_mono (h := zA β 0 19) (m := (v + 1).toNat) (zI β 0 23).toNat (by omega)
      refine ⟨by omega, by omega, fun z => ?_, fun nz => ?_⟩
      · rw [if_pos z] at hcv
        have hn := hu.2.1
        have ha := wus.1
        have hk : 0 ≤ zA τ 0 56 m ∧ zA τ 0 56 m ≤ 79 := by omega
        have hn14 := wpb v hv.1 (by omega) z
        have hn16 := wO _ hn.1 hn.2
        refine ⟨by omega, hn, by omega, ih _ _ ⟨⟨((((hf.ta (by decide)).ta (by decide)).ta (by decide)).ta (by decide)), (((hO.u57.u58 (by omega)).u59 (by omega)).u56), hG.u57 (w1 _ hn.1 hn.2).2.2.2, h44⟩, hS, hX, hc, by omega, ?_, ?_⟩ (by show (zI β 0 23 - (v + 1)).toNat < (zI β 0 23 - v).toNat; omega)⟩
        · show zu (zA τ 0 56) m (zA τ 0 56 m + 1) m = _
          rw [pu_eq, h56, hcv]
        · intro k k0 k1
          have k1' : k < zA τ 0 56 m + 1 := by
            have e : zA (zsA (zsA (zsA (zsA τ 0 57 (80 * m + zA τ 0 56 m) (zA β 0 12 (zA β 0 20 v))) 0 58 (80 * m + zA τ 0 56 m) (zA β 0 14 (zA β 0 20 v))) 0 59 (80 * m + zA τ 0 56 m) (zA β 0 16 (zA β 0 20 v))) 0 56 m (zA τ 0 56 m + 1)) 0 56 m = zA τ 0 56 m + 1 := pu_eq (h := zA τ 0 56)
            rw [e] at k1; exact k1
          show (0 ≤ zu (zA τ 0 58) (80 * m + zA τ 0 56 m) (zA β 0 14 (zA β 0 20 v)) (80 * m + k) ∧ zu (zA τ 0 58) (80 * m + zA τ 0 56 m) (zA β 0 14 (zA β 0 20 v)) (80 * m + k) < zI β 0 34) ∧ (0 ≤ zu (zA τ 0 59) (80 * m + zA τ 0 56 m) (zA β 0 16 (zA β 0 20 v)) (80 * m + k) ∧ zu (zA τ 0 59) (80 * m + zA τ 0 56 m) (zA β 0 16 (zA β 0 20 v)) (80 * m + k) ≤ 62000)
          by_cases e : k = zA τ 0 56 m
          · rw [e, pu_eq, pu_eq]; exact ⟨hn14, hn16⟩
          · have hne : 80 * m + k ≠ 80 * m + zA τ 0 56 m := by omega
            rw [pu_ne hne, pu_ne hne]
            exact hP k k0 (by omega)
      · rw [if_neg nz] at hcv
        exact ih _ _ ⟨⟨hf, hO, hG, h44⟩, hS, hX, hc, by omega, by omega, hP⟩ (by show (zI β 0 23 - (v + 1)).toNat < (zI β 0 23 - v).toNat; omega)
  -- the pieces
  have f161 : ∀ τ : ZS, WI β m τ → MS β m τ (zI β 0 34) → zA τ 0 50 m = 0 → zA τ 0 56 m = 0 → wpX11_write_161 m 0 τ Q := by
    intro τ0 h0 hS0 hc0 he0
    unfold wpX11_write_161
    refine lfp1_ind (fun v _ => (zI β 0 31 - v).toNat) (fun v τ => WI β m τ ∧ MS β m τ (zI β 0 34) ∧ FX β m τ ∧ (0 ≤ zA τ 0 50 m ∧ 2 * zA τ 0 50 m ≤ psum (szp β) v.toNat) ∧ (0 ≤ v ∧ v ≤ zI β 0 31) ∧ zA τ 0 56 m = 0) ?_ ⟨h0, hS0, fun k k0 k1 => absurd k1 (by rw [hc0]; omega), by rw [hc0]; exact ⟨Int.le_refl _, Int.le_refl _⟩, by omega, he0⟩
    intro P v τ ⟨hI, hS, hX, hc, hv, h56⟩ ih
    obtain ⟨hf, hO, hG, h44⟩ := hI
    have i31 : zI τ 0 31 = zI β 0 31 := hf.1 31 (by decide)
    show wpbX11_write_161 P m v τ Q
    unfold wpbX11_write_161
    rw [i31]
    refine ⟨by omega, by omega, fun e => ?_, fun ne => ?_⟩
    · have hev : v = zI β 0 31 := by omega
      have h3 := wL.2.2
      rw [hev] at hc
      exact f183 τ ⟨hf, hO, hG, h44⟩ hS hX (by omega) h56
    · refine s_put hWC hm ⟨hv.1, by omega⟩ hf (fun s s0 s1 => ⟨(hS s s0 s1).1, (hS s s0 s1).2.1⟩) hG hX hc (fun υ hfu hOu hGu hXu hcu => ?_)
      have e46 : zA υ 0 46 = zA τ 0 46 := hfu.2 46 (by decide)
      have e47 : zA υ 0 47 = zA τ 0 47 := hfu.2 47 (by decide)
      have e48 : zA υ 0 48 = zA τ 0 48 := hfu.2 48 (by decide)
      have e44 : zA υ 0 44 = zA τ 0 44 := hfu.2 44 (by decide)
      have e56 : zA υ 0 56 = zA τ 0 56 := hfu.2 56 (by decide)
      refine ih _ _ ⟨⟨hf.tr (hfu.up (by decide) (by decide)), hO.tr hOu, hGu, by rw [e44]; exact h44⟩, ?_, hXu, hcu, by omega, by rw [e56]; exact h56⟩ (by show (zI β 0 31 - (v + 1)).toNat < (zI β 0 31 - v).toNat; omega)
      intro s s0 s1
      rw [e46, e47, e48]; exact hS s s0 s1
  -- the bytes are cleared
  have f133 : ∀ τ : ZS, WI β m τ → MS β m τ (zI β 0 34) → zA τ 0 50 m = 0 → zA τ 0 56 m = 0 → wpX11_write_133 m 0 τ Q := by
    intro τ0 h0 hS0 hc0 he0
    unfold wpX11_write_133
    refine lfp1_ind (fun v _ => (400 - v).toNat) (fun v τ => WI β m τ ∧ MS β m τ (zI β 0 34) ∧ zA τ 0 50 m = 0 ∧ (0 ≤ v ∧ v ≤ 400) ∧ zA τ 0 56 m = 0) ?_ ⟨h0, hS0, hc0, by omega, he0⟩
    intro P v τ ⟨hI, hS, hc, hv, h56⟩ ih
    show wpbX11_write_133 P m v τ Q
    unfold wpbX11_write_133
    refine ⟨by omega, fun e => f161 τ hI hS hc h56, fun ne => ⟨by omega, ih _ _ ⟨⟨hI.1.ta (by decide), hI.2.1.u49, hI.2.2.1.u49 (by decide), hI.2.2.2⟩, hS, hc, by omega, h56⟩ (by show (400 - (v + 1)).toNat < (400 - v).toNat; omega)⟩⟩
  unfold wpX11_write wpX11_write_35
  refine ⟨by omega, ?_⟩
  refine lfp2_ind (fun _ v _ => (zI β 0 34 - v).toNat) (fun a v τ => WI β m τ ∧ MS β m τ v ∧ zA τ 0 50 m = 0 ∧ (0 ≤ v ∧ v ≤ zI β 0 34) ∧ zA τ 0 56 m = 0 ∧ a = psum (zA β 0 36) v.toNat) ?_ ⟨⟨((((fr.rf.ta (by decide)).ta (by decide)).ta (by decide)).ta (by decide)), (OU.rf.u43.u44.u50.u56), hM.u43 (by decide), pu_eq (h := zA β 0 44)⟩, fun s s0 s1 => absurd s1 (by omega), pu_eq (h := zA β 0 50), by omega, pu_eq (h := zA β 0 56), rfl⟩
  intro P a v τ ⟨hI, hS, hc, hv, h56, ha⟩ ih
  obtain ⟨hf, hO, hG, h44⟩ := hI
  have b := hf.2
  have i34 : zI τ 0 34 = zI β 0 34 := hf.1 34 (by decide)
  show wpbX11_write_35 P m a v τ Q
  unfold wpbX11_write_35
  rw [i34, b 35 (by decide), b 12 (by decide), b 15 (by decide), b 36 (by decide)]
  refine ⟨by omega, by omega, fun e => ?_, fun ne => ?_⟩
  · have hev : v = zI β 0 34 := by omega
    exact f133 τ ⟨hf, hO, hG, h44⟩ (hev ▸ hS) hc h56
  · have hn := (wal v hv.1 (by omega)).1
    have hal := (wal v hv.1 (by omega)).2
    have hg := w1 _ hn.1 hn.2
    refine ⟨by omega, hn, by omega, ih _ _ _ ⟨⟨((((hf.ta (by decide)).ta (by decide)).ta (by decide)).ta (by decide)), (((hO.u45.u46 (by omega)).u47 (by omega)).u48 (by omega)), hG.u45 hg.2.2.2, h44⟩, ?_, hc, by omega, h56, ?_⟩ (by show (zI β 0 34 - (v + 1)).toNat < (zI β 0 34 - v).toNat; omega)⟩
    · intro s s0 s1
      show zu (zA τ 0 47) (24 * m + v) a (24 * m + s) = _ ∧ zu (zA τ 0 48) (24 * m + v) (zA β 0 36 v) (24 * m + s) = _ ∧ 1 ≤ zu (zA τ 0 46) (24 * m + v) (zA β 0 15 (zA β 0 35 v)) (24 * m + s) ∧ zu (zA τ 0 46) (24 * m + v) (zA β 0 15 (zA β 0 35 v)) (24 * m + s) ≤ 16
      by_cases e : s = v
      · rw [e, pu_eq, pu_eq, pu_eq]; exact ⟨ha, rfl, hal, hg.2.2.1.2⟩
      · have hne : 24 * m + s ≠ 24 * m + v := by omega
        rw [pu_ne hne, pu_ne hne, pu_ne hne]
        exact hS s s0 (by omega)
    · rw [ha, hps v hv.1]
/-! P: the reference assembles -/
theorem psum_le {f g : Int → Int} : ∀ n : Nat, (∀ j : Int, 0 ≤ j → j < n → f j ≤ g j) → psum f n ≤ psum g n
  | 0, _ => Int.le_refl 0
  | n + 1, h => by
    have h1 := psum_le n (fun j a b => h j a (by omega))
    have h2 := h n (by omega) (by omega)
    show psum f n + f n ≤ psum g n + g n
    omega
theorem psum_add {f g : Int → Int} : ∀ n : Nat, psum (fun j => f j + g j) n = psum f n + psum g n
  | 0 => rfl
  | n + 1 => by
    show psum (fun j => f j + g j) n + (f n + g n) = psum f n + f n + (psum g n + g n)
    rw [psum_add n]; omega
theorem psum_one {a : Int} : ∀ n : Nat, psum (fun j => if j = a then 1 else 0) n ≤ if a < n then 1 else 0
  | 0 => by show (0 : Int) ≤ _; split <;> decide
  | n + 1 => by
    have h := psum_one (a := a) n
    show psum (fun j => if j = a then 1 else 0) n + (if (n : Int) = a then 1 else 0) ≤ _
    revert h
    split <;> split <;> split <;> intro h <;> omega
theorem psum_const : ∀ n : Nat, psum (fun _ => 1) n = n
  | 0 => rfl
  | n + 1 => by
    show psum (fun _ => 1) n + 1 = ((n + 1 : Nat) : Int)
    rw [psum_const n]; omega
theorem pig {f g : Int → Int} {n : Nat} : ∀ k : Nat, (∀ s : Int, 0 ≤ s → s < n → 0 ≤ f s ∧ g (f s) = s) → psum (fun s => if f s < k then 1 else 0) n ≤ k
  | 0, h => by
    rw [psum_ext (g := fun _ => 0) n (fun j a b => by show (if f j < ((0 : Nat) : Int) then (1 : Int) else 0) = 0; have := h j a b; rw [if_neg (by omega)])]
    have : ∀ m : Nat, psum (fun _ => 0) m = 0 := by
      intro m
      induction m with
      | zero => rfl
      | succ m ih => show psum (fun _ => 0) m + 0 = 0; rw [ih]; rfl
    rw [this]; omega
  | k + 1, h => by
    have h1 := pig k h
    have h2 := psum_one (a := g k) n
    have h3 : psum (fun s => if f s < ((k + 1 : Nat) : Int) then (1 : Int) else 0) n ≤ psum (fun j => (fun s => if f s < (k : Int) then (1 : Int) else 0) j + (fun j => if j = g k then (1 : Int) else 0) j) n := by
      refine psum_le n (fun j a b => ?_)
      show (if f j < ((k + 1 : Nat) : Int) then (1 : Int) else 0) ≤ (if f j < (k : Int) then (1 : Int) else 0) + (if j = g k then (1 : Int) else 0)
      by_cases e1 : f j < (k : Int)
      · rw [if_pos e1, if_pos (by omega)]; split <;> decide
      · by_cases e2 : f j = (k : Int)
        · have e3 : j = g k := by rw [← e2]; exact (h j a b).2.symm
          rw [if_neg e1, if_pos e3]; split <;> decide
        · rw [if_neg (by omega), if_neg e1]; split <;> decide
    rw [psum_add] at h3
    have h4 : (if g k < (n : Int) then (1 : Int) else 0) ≤ 1 := by split <;> decide
    omega
theorem pigeon {f g : Int → Int} {n k : Int} (hn : 0 ≤ n) (hk : 0 ≤ k) (h : ∀ s : Int, 0 ≤ s → s < n → (0 ≤ f s ∧ f s < k) ∧ g (f s) = s) : n ≤ k := by
  have h1 := pig (f := f) (g := g) (n := n.toNat) k.toNat (fun s a b => ⟨(h s a (by omega)).1.1, (h s a (by omega)).2⟩)
  rw [psum_ext (g := fun _ => 1) n.toNat (fun j a b => by show (if f j < ((k.toNat : Nat) : Int) then (1 : Int) else 0) = 1; have := h j a (by omega); rw [if_pos (by omega)]), psum_const] at h1
  omega
abbrev HA : List Nat := [16, 29, 30, 36, 43, 44, 45, 46, 47, 48, 49, 50, 51, 52, 53, 54, 55, 56, 57, 58, 59]
theorem PA0.up {σ τ : ZS} (h : PA0 σ) (i : ∀ f : Nat, f ∉ [0, 3, 4, 18] → zI τ 0 f = zI σ 0 f) (a : ∀ j : Nat, j ∉ HA → zA τ 0 j = zA σ 0 j) (g3 : G3 τ) : PA0 τ := by
  obtain ⟨hT, hL, h1, h2, h3, h4⟩ := h
  refine ⟨?_, ?_, ?_, ?_, g3, ?_⟩
  · unfold Tx; rw [i 2 (by decide), a 1 (by decide), a 11 (by decide)]; exact hT
  · rw [i 9 (by decide), i 10 (by decide), i 8 (by decide), i 37 (by decide), i 38 (by decide), i 39 (by decide), i 41 (by decide), i 42 (by decide)]; exact hL
  · unfold G1; rw [a 12 (by decide), a 13 (by decide), a 14 (by decide), a 15 (by decide)]; exact h1
  · unfold G2; rw [a 19 (by decide), a 20 (by decide), a 21 (by decide), a 22 (by decide)]; exact h2
  · rw [a 35 (by decide)]; exact h4
theorem GM.up {σ τ : ZS} (h : GM σ) (a : ∀ j : Nat, j ∈ WA → zA τ 0 j = zA σ 0 j) : GM τ := by
  unfold GM; rw [a 45 (by decide), a 55 (by decide), a 57 (by decide), a 49 (by decide), a 43 (by decide)]; exact h
theorem MI.up {σ τ : ZS} {n : Int} (h : MI σ n) (a : ∀ j : Nat, j ∈ WA → zA τ 0 j = zA σ 0 j) : MI τ n := by
  unfold MI; rw [a 44 (by decide), a 50 (by decide), a 56 (by decide), a 47 (by decide), a 48 (by decide), a 46 (by decide), a 51 (by decide), a 52 (by decide), a 53 (by decide), a 54 (by decide), a 58 (by decide), a 59 (by decide)]; exact h
theorem OFs.up {σ τ : ZS} (h : OFs σ) (a : zA τ 0 16 = zA σ 0 16) : OFs τ := by unfold OFs; rw [a]; exact h
/-- what stands between calls, assembler's side -/
def RA (σ : ZS) : Prop := PA0 σ ∧ OFs σ ∧ GM σ ∧ (∀ n : Int, 0 ≤ n → n ≤ 2 → MI σ n)
abbrev AF : List Nat := [0, 2, 3, 4, 5, 6, 7, 8, 9, 10, 17, 18, 23, 31, 32, 33, 34, 37, 38, 39, 40, 41, 42]
abbrev AA : List Nat := [12, 13, 14, 15, 16, 19, 20, 21, 22, 24, 25, 26, 27, 28, 29, 30, 35, 36, 43, 44, 45, 46, 47, 48, 49, 50, 51, 52, 53, 54, 55, 56, 57, 58, 59]
theorem s_assemble {σ : ZS} {a : Int} {Q : Int → ZS → Prop} (hR : RA σ) (ha : -2147483648 ≤ a ∧ a ≤ 2147483647) (hQ : ∀ (r : Int) (τ : ZS), RA τ → fr AF AA σ τ → (0 ≤ r ∧ r ≤ 400) → zI τ 0 2 = (if 0 ≤ a ∧ a ≤ 2 then 0 else zI σ 0 2) → Q r τ) : wpX11_assemble a σ Q := by
  have hQ0 : ¬ (0 ≤ a ∧ a ≤ 2) → wpX11_assemble_14 (zsI σ 0 0 0) Q := by
    intro hn
    refine hQ 0 _ hR (((fr.rf.ti (by decide)).ti (by decide))) (by decide) ?_
    rw [if_neg hn]; rfl
  unfold wpX11_assemble
  refine ⟨ha, fun n => hQ0 (by omega), fun nn => ⟨fun le => ?_, fun nle => hQ0 (by omega)⟩⟩
  have hA : 0 ≤ a ∧ a ≤ 2 := by omega
  obtain ⟨hP, hO, hG, hM⟩ := hR
  have hPz : PA0 (zsI σ 0 0 0) := hP
  refine s_parse hPz (fun r τ g hf hr => ?_)
  have hf1 : fr AF AA σ τ := (show fr AF AA σ (zsI σ 0 0 0) from fr.i (by decide)).tr (hf.up (by decide) (by decide))
  have hw1 : ∀ j : Nat, j ∈ WA → zA τ 0 j = zA σ 0 j := fun j hj => hf.2 j (fun q => absurd hj ((show ∀ k ∈ PA, k ∉ WA by decide) j q))
  have hO1 : OFs τ := hO.up (hf.2 16 (by decide))
  have hG1 : GM τ := hG.up hw1
  have hM1 : ∀ n : Int, 0 ≤ n → n ≤ 2 → MI τ n := fun n a b => (hM n a b).up hw1
  obtain ⟨pT, pL, p1, p2, p3, p4⟩ := g.pa0
  have hP1 : PA0 (zsI τ 0 2 0) := ⟨⟨(show (0 : Int) ≤ 0 ∧ (0 : Int) ≤ 480 from ⟨by decide, by decide⟩), fun j j0 j1 => absurd j1 (by show ¬ j < 0; omega), pT.2.2⟩, pL, p1, p2, p3, p4⟩
  have hAI := g.ai
  refine ⟨by omega, fun n0 => ?_, fun _ => hQ 0 _ ⟨hP1, hO1, hG1, hM1⟩ ((hf1.ti (by decide)).ti (by decide)) (by decide) (by rw [if_pos hA]; rfl)⟩
  obtain ⟨α, hα⟩ : ∃ α, α = zsI τ 0 2 0 := ⟨_, rfl⟩
  have hfα : fr AF AA σ α := by rw [hα]; exact hf1.ti (by decide)
  have hOα : OFs α := by rw [hα]; exact hO1
  have hGα : GM α := by rw [hα]; exact hG1
  have hMα : ∀ n : Int, 0 ≤ n → n ≤ 2 → MI α n := by rw [hα]; exact hM1
  have hzα : zI α 0 2 = 0 := by rw [hα]; rfl
  rw [← hα] at hP1 hAI
  rw [← hα]
  refine s_judge hAI (fun β hB hfβ hj => ?_)
  have iβ : ∀ f : Nat, f ≠ 18 → zI β 0 f = zI α 0 f := fun f hf' => hfβ.1 f (by simpa using hf')
  have aβ : ∀ j : Nat, zA β 0 j = zA α 0 j := fun j => hfβ.2 j (by simp)
  have hBf : fr AF AA σ β := hfα.tr (hfβ.up (by decide) (by decide))
  have h3β : G3 β := hB.2.2.2.2.1
  have hPβ : PA0 β := hP1.up (fun f hf' => iβ f (fun e => hf' (by rw [e]; decide))) (fun j _ => aβ j) h3β
  have hOβ : OFs β := hOα.up (aβ 16)
  have hGβ : GM β := hGα.up (fun j _ => aβ j)
  have hMβ : ∀ n : Int, 0 ≤ n → n ≤ 2 → MI β n := fun n x y => (hMα n x y).up (fun j _ => aβ j)
  have h2β : zI β 0 2 = 0 := by rw [iβ 2 (by decide)]; exact hzα
  obtain ⟨⟨c17, c23, c31, c34, c18, ccn⟩, cw, g1, g2, g3, g4, g5, g6⟩ := hB
  refine ⟨by omega, fun neg => ?_, fun _ => hQ 0 _ ⟨hPβ, hOβ, hGβ, hMβ⟩ (((hBf.ti (by decide)).ti (by decide)).ti (by decide)) (by decide) (by rw [if_pos hA]; exact h2β)⟩
  have hjd := (hj neg).2
  have hcw := cw neg
  have h6 := g6 neg
  refine s_settle g1 g3 hOβ ⟨c31, c34, h6.1⟩ (fun γ hfγ h3γ hOγ hLγ hne => ?_)
  have iγ : ∀ f : Nat, zI γ 0 f = zI β 0 f := fun f => hfγ.1 f (by simp)
  have aγ : ∀ j : Nat, j ∉ [16, 29, 30, 36] → zA γ 0 j = zA β 0 j := hfγ.2
  have hγf : fr AF AA σ γ := hBf.tr (hfγ.up (by decide) (by decide))
  have hPγ : PA0 γ := hPβ.up (fun f _ => iγ f) (fun j hj' => aγ j (fun q => hj' ((show ∀ k ∈ [16, 29, 30, 36], k ∈ HA by decide) j q))) h3γ
  have hwγ : ∀ j : Nat, j ∈ WA → zA γ 0 j = zA β 0 j := fun j hj' => aγ j (fun q => absurd hj' ((show ∀ k ∈ [16, 29, 30, 36], k ∉ WA by decide) j q))
  have hGγ : GM γ := hGβ.up hwγ
  have hMγ : ∀ n : Int, 0 ≤ n → n ≤ 2 → MI γ n := fun n x y => (hMβ n x y).up hwγ
  have h2γ : zI γ 0 2 = 0 := by rw [iγ]; exact h2β
  have h24 : zI β 0 34 ≤ 24 := by
    have := pigeon (f := zA β 0 35) (g := zA β 0 14) (n := zI β 0 34) (k := zI β 0 17) c34.1 c17.1 (fun s s0 s1 => ⟨⟨(g4.1 s s0 (by omega)).1, (g4.2.1 s s0 s1).1⟩, (g4.2.1 s s0 s1).2.2.1⟩)
    omega
  have hWC : psum (zA γ 0 36) (zI γ 0 34).toNat ≤ 400 → WC γ := by
    intro hs
    unfold WC G1 G2 Sg
    rw [iγ 31, iγ 34, iγ 23] at *
    rw [aγ 12 (by decide), aγ 13 (by decide), aγ 14 (by decide), aγ 15 (by decide), aγ 19 (by decide), aγ 20 (by decide), aγ 21 (by decide), aγ 22 (by decide), aγ 24 (by decide), aγ 25 (by decide), aγ 28 (by decide), aγ 35 (by decide)]
    refine ⟨g1, g2, h3γ, hOγ, hLγ, ⟨c31, c34, h6.1⟩, h24, fun s s0 s1 => ⟨g4.1 s s0 (by omega), (g4.2.1 s s0 s1).2.2.2⟩, hs, hne, fun p p0 p1 hk => ?_, fun u u0 u1 hz => ?_, c23, ccn⟩
    · obtain ⟨u, u0, u1, ue, uk⟩ := g5.2 p p0 p1 hk
      have hu := hjd u u0 u1
      have hn := (g2 u u0 (by omega)).2.1
      have hn17 := g5.1 u u0 u1
      rw [← ue]
      have hg := g1 _ hn.1 hn.2
      have hg4 := g4.2.2 _ hn.1 hn17
      refine ⟨hg.2.1.1, fun n3 => ?_⟩
      have hs0 : zA β 0 13 (zA β 0 20 u) = 1 ∨ zA β 0 13 (zA β 0 20 u) = 2 := by
        rcases uk with k | k
        · have := hu.2.1 k; omega
        · have := hu.2.2 k; omega
      rcases hs0 with k | k
      · exact (hg4.1 k).2
      · rcases hg4.2 k with e | e
        · omega
        · exact e
    · have hu := (hjd u u0 u1).1 hz
      have hn := (g2 u u0 (by omega)).2.1
      have hn17 := g5.1 u u0 u1
      have hg4 := (g4.2.2 _ hn.1 hn17).2 hu
      have hg6 := h6.2 _ hn.1 hn17 hu
      omega
  have i31 := iγ 31
  have i34 := iγ 34
  have hszn : ∀ j : Int, 0 ≤ j → j < ((zI γ 0 34).toNat : Int) → 0 ≤ zA γ 0 36 j := fun j x y => (hLγ.1 j x (by omega)).1
  have hps : ∀ s : Int, 0 ≤ s → psum (zA γ 0 36) (s + 1).toNat = psum (zA γ 0 36) s.toNat + zA γ 0 36 s := by
    intro s s0
    rw [show (s + 1).toNat = s.toNat + 1 by omega]
    show psum (zA γ 0 36) s.toNat + zA γ 0 36 ((s.toNat : Nat) : Int) = _
    rw [show ((s.toNat : Nat) : Int) = s by omega]
  have tell : ∀ (x y z : Int), Q 0 (zsI (zsI (zsI γ 0 3 x) 0 4 y) 0 0 z) := fun x y z => hQ 0 _ ⟨hPγ, hOγ, hGγ, hMγ⟩ (((hγf.ti (by decide)).ti (by decide)).ti (by decide)) (by decide) (by rw [if_pos hA]; exact h2γ)
  have f114 : ∀ v3 : Int, (0 ≤ v3 ∧ v3 ≤ 400) → psum (zA γ 0 36) (zI γ 0 34).toNat ≤ 400 → wpX11_assemble_114 a v3 0 γ Q := by
    intro v3 hv3 hs
    have hW := hWC hs
    unfold wpX11_assemble_114
    refine lfp1_ind (fun v _ => (zI γ 0 31 - v).toNat) (fun v τ => τ = γ ∧ (0 ≤ v ∧ v ≤ zI γ 0 31)) ?_ ⟨rfl, by omega⟩
    intro P v τ ⟨he, hv⟩ ih
    rw [he]
    show wpbX11_assemble_114 P a v3 v γ Q
    unfold wpbX11_assemble_114 wpX11_assemble_160
    have next : v < zI γ 0 31 → P (v + 1) γ := fun q => ih (v + 1) γ ⟨rfl, by omega⟩ (by show (zI γ 0 31 - (v + 1)).toNat < (zI γ 0 31 - v).toNat; omega)
    refine ⟨by omega, by omega, fun e => ?_, fun ne => ?_⟩
    · refine s_write hW hGγ hA (fun υ hfu hOu hGu hMu => ?_)
      have hPu : PA0 υ := by
        refine hPγ.up (fun f _ => hfu.1 f (by simp)) (fun j hj' => hfu.2 j (fun q => hj' ((show ∀ k ∈ WA, k ∈ HA by decide) j q))) ?_
        unfold G3; rw [hfu.2 24 (by decide), hfu.2 25 (by decide), hfu.2 26 (by decide), hfu.2 27 (by decide), hfu.2 28 (by decide), hfu.2 30 (by decide)]; exact h3γ
      have hOu' : OFs υ := hOγ.up (hfu.2 16 (by decide))
      refine hQ _ _ ⟨hPu, hOu', hGu, fun n n0 n1 => ?_⟩ (((hγf.tr (hfu.up (by decide) (by decide))).ti (by decide)).ti (by decide)) hv3 ?_
      · show MI υ n
        by_cases e : n = a
        · rw [e]; exact hMu
        · exact (hMγ n n0 n1).ou hOu hA ⟨n0, n1⟩ e
      · rw [if_pos hA]
        show zI υ 0 2 = 0
        rw [hfu.1 2 (by simp)]; exact h2γ
    · have hq := h3γ v hv.1 (by omega)
      refine ⟨by omega, by omega, fun _ => next (by omega), fun e5 => ?_⟩
      have hn := hq.2.1 (by omega) (by omega)
      have hof := hOγ _ hn.1 hn.2
      have hat := hLγ.2.1 v hv.1 (by omega)
      have hsz := szp_bd h3γ hv.1 (by omega)
      refine s_distance h3γ (by omega) hn ?_
      refine s_isShort (by omega) (fun _ _ => ⟨by decide, fun _ => next (by omega), fun q => absurd q (by decide)⟩) (fun _ => ⟨by decide, fun q => absurd rfl q, fun _ => tell _ _ _⟩)
  unfold wpX11_assemble_71
  refine lfp2_ind (fun _ v _ => (zI γ 0 34 - v).toNat) (fun x v τ => τ = γ ∧ (0 ≤ v ∧ v ≤ zI γ 0 34) ∧ x = psum (zA γ 0 36) v.toNat ∧ (0 ≤ x ∧ x ≤ 62000 * v)) ?_ ⟨rfl, by omega, rfl, by omega⟩
  intro P x v τ ⟨he, hv, hx, hxb⟩ ih
  rw [he]
  show wpbX11_assemble_71 P a x v γ Q
  unfold wpbX11_assemble_71
  refine ⟨by omega, by omega, fun e => ⟨by omega, fun le4 => ?_, fun _ => tell _ _ _⟩, fun ne => ⟨by omega, ih _ _ _ ⟨rfl, by omega, ?_, ?_⟩ (by show (zI γ 0 34 - (v + 1)).toNat < (zI γ 0 34 - v).toNat; omega)⟩⟩
  · have hev : v = zI γ 0 34 := by omega
    refine f114 x ⟨hxb.1, le4⟩ ?_
    rw [← hev, ← hx]; exact le4
  · rw [hps v hv.1, hx]
  · have := hLγ.1 v hv.1 (by omega)
    omega
/-! P: the reference links: publics -/
theorem zor_bytes {b c : Int} (hb : 0 ≤ b ∧ b < 256) (hc : 0 ≤ c ∧ c < 256) : zor b (c * 256) = c * 256 + b := by
  unfold zor
  have e1 : Int32.ofInt (c * 256) = Int32.ofNat (c.toNat * 256) := by
    apply Int32.toInt_inj.mp
    rw [z_ti (by omega), Int32.toInt_ofNat_of_lt (by omega)]
    omega
  have e2 : Int32.ofInt b = Int32.ofNat b.toNat := by
    apply Int32.toInt_inj.mp
    rw [z_ti (by omega), Int32.toInt_ofNat_of_lt (by omega)]
    omega
  have e3 : Int32.ofNat b.toNat ||| Int32.ofNat (c.toNat * 256) = Int32.ofNat (c.toNat * 256 + b.toNat) := by
    apply Int32.toBitVec_inj.mp
    apply BitVec.eq_of_toNat_eq
    rw [Int32.toBitVec_or, BitVec.toNat_or]
    show (BitVec.ofNat 32 _).toNat ||| (BitVec.ofNat 32 _).toNat = (BitVec.ofNat 32 _).toNat
    rw [BitVec.toNat_ofNat, BitVec.toNat_ofNat, BitVec.toNat_ofNat, Nat.mod_eq_of_lt (by omega), Nat.mod_eq_of_lt (by omega), Nat.mod_eq_of_lt (by omega), Nat.or_comm]
    have := Nat.shiftLeft_add_eq_or_of_lt (b := b.toNat) (i := 8) (by omega) c.toNat
    rw [Nat.shiftLeft_eq] at this
    exact this.symm
  rw [e1, e2, e3, Int32.toInt_ofNat_of_lt (by omega)]
  omega
def Pub (σ : ZS) (w : Int) : Prop := ∃ m k : Int, (0 ≤ m ∧ m ≤ 2) ∧ zA σ 0 43 m ≠ 0 ∧ (0 ≤ k ∧ k < zA σ 0 56 m) ∧ zA σ 0 57 (80 * m + k) = w
/-- all modules -/
def MA (σ : ZS) : Prop := GM σ ∧ (∀ n : Int, 0 ≤ n → n ≤ 2 → MI σ n)
theorem s_publicIn {σ : ZS} {m w : Int} {Q : Int → ZS → Prop} (hA : MA σ) (hm : 0 ≤ m ∧ m ≤ 2) (hw : 0 ≤ w ∧ w ≤ 72057594037927936) (h0 : (∀ k : Int, 0 ≤ k → k < zA σ 0 56 m → zA σ 0 43 m ≠ 0 → zA σ 0 57 (80 * m + k) ≠ w) → Q (-1) σ) (h1 : ∀ k : Int, 0 ≤ k → k < zA σ 0 56 m → zA σ 0 43 m ≠ 0 → zA σ 0 57 (80 * m + k) = w → Q (80 * m + k) σ) : wpX11_publicIn m w σ Q := by
  have hM := (hA.2 m hm.1 hm.2).1.2.2
  have h43 := hA.1.2.2.2.2 m hm.1 (by omega)
  unfold wpX11_publicIn wpX11_publicIn_3
  refine lfp1_ind (fun v _ => (80 - v).toNat) (fun v τ => τ = σ ∧ (0 ≤ v ∧ v ≤ zA σ 0 56 m) ∧ (∀ k : Int, 0 ≤ k → k < v → zA σ 0 43 m ≠ 0 → zA σ 0 57 (80 * m + k) ≠ w)) ?_ ⟨rfl, by omega, fun k k0 k1 => absurd k1 (by omega)⟩
  intro P v τ ⟨he, hv, hno⟩ ih
  rw [he]
  show wpbX11_publicIn_3 P m w v σ Q
  unfold wpbX11_publicIn_3 wpX11_publicIn_54
  refine ⟨by omega, by omega, by omega, fun e => h0 (fun k k0 k1 => hno k k0 (by omega)), fun ne => ⟨by omega, fun z => h0 (fun k _ _ q => absurd z q), fun nz => ?_⟩⟩
  have h57 := hA.1.2.2.1 (80 * m + v) (by omega) (by omega)
  refine ⟨by omega, by omega, by omega, fun nw => ih _ _ ⟨rfl, by omega, fun k k0 k1 q => ?_⟩ (by show (80 - (v + 1)).toNat < (80 - v).toNat; omega), fun ew => h1 v hv.1 (by omega) nz ew⟩
  by_cases e : k = v
  · rw [e]; exact nw
  · exact hno k k0 (by omega) q
theorem s_publicOf {σ : ZS} {w : Int} {Q : Int → ZS → Prop} (hA : MA σ) (hw : 0 ≤ w ∧ w ≤ 72057594037927936) (h0 : ¬ Pub σ w → Q (-1) σ) (h1 : ∀ m k : Int, (0 ≤ m ∧ m ≤ 2) → (0 ≤ k ∧ k < zA σ 0 56 m) → zA σ 0 43 m ≠ 0 → zA σ 0 57 (80 * m + k) = w → Q (80 * m + k) σ) : wpX11_publicOf w σ Q := by
  unfold wpX11_publicOf wpX11_publicOf_2
  refine lfp1_ind (fun v _ => (3 - v).toNat) (fun v τ => τ = σ ∧ (0 ≤ v ∧ v ≤ 3) ∧ (∀ m k : Int, 0 ≤ m → m < v → 0 ≤ k → k < zA σ 0 56 m → zA σ 0 43 m ≠ 0 → zA σ 0 57 (80 * m + k) ≠ w)) ?_ ⟨rfl, by omega, fun m k k0 k1 => absurd k1 (by omega)⟩
  intro P v τ ⟨he, hv, hno⟩ ih
  rw [he]
  show wpbX11_publicOf_2 P w v σ Q
  unfold wpbX11_publicOf_2
  refine ⟨by omega, fun e => h0 (fun ⟨m, k, hm, h43, hk, h57⟩ => hno m k hm.1 (by omega) hk.1 hk.2 h43 h57), fun ne => ?_⟩
  refine s_publicIn hA ⟨hv.1, by omega⟩ hw (fun hn => ⟨by decide, fun _ => ih _ _ ⟨rfl, by omega, fun m k m0 m1 k0 k1 q => ?_⟩ (by show (3 - (v + 1)).toNat < (3 - v).toNat; omega), fun q => absurd (by decide) q⟩) (fun k k0 k1 q e => ?_)
  · by_cases e : m = v
    · rw [e] at k1 q ⊢; exact hn k k0 k1 q
    · exact hno m k m0 (by omega) k0 k1 q
  · have hM := (hA.2 v hv.1 (by omega)).1.2.2
    exact ⟨by omega, fun l => absurd l (by omega), fun _ => h1 v k ⟨hv.1, by omega⟩ ⟨k0, k1⟩ q e⟩
theorem s_twice {σ : ZS} {Q : Int → ZS → Prop} (hA : MA σ) (hQ : ∀ r : Int, (-1 ≤ r ∧ r ≤ 2) → Q r σ) : wpX11_twice σ Q := by
  unfold wpX11_twice wpX11_twice_2
  refine lfp1_ind (fun v _ => (3 - v).toNat) (fun v τ => τ = σ ∧ (1 ≤ v ∧ v ≤ 3)) ?_ ⟨rfl, by omega⟩
  intro P m τ ⟨he, hm⟩ ih
  rw [he]
  show wpbX11_twice_2 P m σ Q
  unfold wpbX11_twice_2
  refine ⟨by omega, fun _ => hQ _ (by decide), fun ne => ?_⟩
  have hM := (hA.2 m (by omega) (by omega)).1.2.2
  have h43 := hA.1.2.2.2.2 m (by omega) (by omega)
  have out : P (m + 1) σ := ih _ _ ⟨rfl, by omega⟩ (by show (3 - (m + 1)).toNat < (3 - m).toNat; omega)
  unfold wpX11_twice_9
  refine lfp1_ind (fun v _ => (80 - v).toNat) (fun v τ => τ = σ ∧ (0 ≤ v ∧ v ≤ zA σ 0 56 m)) ?_ ⟨rfl, by omega⟩
  intro P9 k τ ⟨he9, hk⟩ ih9
  rw [he9]
  show wpbX11_twice_9 P P9 m k σ Q
  unfold wpbX11_twice_9 wpX11_twice_68
  refine ⟨by omega, by omega, by omega, fun _ => out, fun ne9 => ⟨by omega, fun _ => out, fun _ => ?_⟩⟩
  have next : P9 (k + 1) σ := ih9 _ _ ⟨rfl, by omega⟩ (by show (80 - (k + 1)).toNat < (80 - k).toNat; omega)
  have h57 := hA.1.2.2.1 (80 * m + k) (by omega) (by omega)
  unfold wpX11_twice_30
  refine lfp1_ind (fun v _ => (m - v).toNat) (fun v τ => τ = σ ∧ (0 ≤ v ∧ v ≤ m)) ?_ ⟨rfl, by omega⟩
  intro P30 n τ ⟨he30, hn⟩ ih30
  rw [he30]
  show wpbX11_twice_30 P P9 P30 m k n σ Q
  unfold wpbX11_twice_30
  refine ⟨by omega, by omega, fun _ => next, fun ne30 => ⟨by omega, ?_⟩⟩
  have hN := (hA.2 n (by omega) (by omega)).1.2.2
  refine s_publicIn hA ⟨hn.1, by omega⟩ h57 (fun _ => ⟨by decide, fun _ => ih30 _ _ ⟨rfl, by omega⟩ (by show (m - (n + 1)).toNat < (m - n).toNat; omega), fun q => absurd (by decide) q⟩) (fun j j0 j1 _ _ => ⟨by omega, fun l => absurd l (by omega), fun _ => hQ _ (by omega)⟩)
def NoMiss (σ : ZS) : Prop := ∀ m k : Int, 0 ≤ m → m ≤ 2 → zA σ 0 43 m ≠ 0 → 0 ≤ k → k < zA σ 0 50 m → zA σ 0 54 (200 * m + k) < 0 → Pub σ (zA σ 0 55 (200 * m + k))
theorem s_missing {σ : ZS} {Q : Int → ZS → Prop} (hA : MA σ) (h0 : NoMiss σ → Q (-1) σ) (h1 : ∀ r : Int, (0 ≤ r ∧ r ≤ 2) → Q r σ) : wpX11_missing σ Q := by
  unfold wpX11_missing wpX11_missing_2
  refine lfp1_ind (fun v _ => (3 - v).toNat) (fun v τ => τ = σ ∧ (0 ≤ v ∧ v ≤ 3) ∧ (∀ m k : Int, 0 ≤ m → m < v → zA σ 0 43 m ≠ 0 → 0 ≤ k → k < zA σ 0 50 m → zA σ 0 54 (200 * m + k) < 0 → Pub σ (zA σ 0 55 (200 * m + k)))) ?_ ⟨rfl, by omega, fun m k a b => absurd b (by omega)⟩
  intro P m τ ⟨he, hm, hno⟩ ih
  rw [he]
  show wpbX11_missing_2 P m σ Q
  unfold wpbX11_missing_2
  refine ⟨by omega, fun _ => h0 (fun m k m0 m1 => hno m k m0 (by omega)), fun ne => ?_⟩
  have hM := (hA.2 m (by omega) (by omega)).1.2.1
  have h43 := hA.1.2.2.2.2 m (by omega) (by omega)
  unfold wpX11_missing_9
  refine lfp1_ind (fun v _ => (200 - v).toNat) (fun v τ => τ = σ ∧ (0 ≤ v ∧ v ≤ zA σ 0 50 m) ∧ (∀ k : Int, zA σ 0 43 m ≠ 0 → 0 ≤ k → k < v → zA σ 0 54 (200 * m + k) < 0 → Pub σ (zA σ 0 55 (200 * m + k)))) ?_ ⟨rfl, by omega, fun k _ a b => absurd b (by omega)⟩
  intro P9 k τ ⟨he9, hk, hnk⟩ ih9
  rw [he9]
  show wpbX11_missing_9 P P9 m k σ Q
  have out : zA σ 0 43 m = 0 ∨ k = zA σ 0 50 m → P (m + 1) σ := by
    intro hq
    refine ih _ _ ⟨rfl, by omega, fun m' k' a b c d e f => ?_⟩ (by show (3 - (m + 1)).toNat < (3 - m).toNat; omega)
    by_cases em : m' = m
    · rw [em] at c e f ⊢
      rcases hq with q | q
      · exact absurd q c
      · exact hnk k' c d (by omega) f
    · exact hno m' k' a (by omega) c d e f
  unfold wpbX11_missing_9 wpX11_missing_70 wpX11_missing_64
  refine ⟨by omega, by omega, by omega, fun _ => out (Or.inr (by omega)), fun ne9 => ⟨by omega, fun z => out (Or.inl z), fun nz => ?_⟩⟩
  have h54 := ((hA.2 m (by omega) (by omega)).2.2.1 k hk.1 (by omega)).2.2.2.2
  have h44 := (hA.2 m (by omega) (by omega)).1.1
  have h55 := hA.1.2.1 (200 * m + k) (by omega) (by omega)
  have next : (zA σ 0 54 (200 * m + k) < 0 → Pub σ (zA σ 0 55 (200 * m + k))) → P9 (k + 1) σ := by
    intro hq
    refine ih9 _ _ ⟨rfl, by omega, fun k' a b c d => ?_⟩ (by show (200 - (k + 1)).toNat < (200 - k).toNat; omega)
    by_cases e : k' = k
    · rw [e] at d ⊢; exact hq d
    · exact hnk k' a b (by omega) d
  refine ⟨by omega, by omega, fun g => next (fun l => absurd l (by omega)), fun ng => ?_⟩
  refine s_publicOf hA h55 (fun _ => ⟨by decide, fun q => absurd q (by decide), fun _ => h1 _ (by omega)⟩) (fun m' k' hm' hk' h43' h57' => ?_)
  have hN := (hA.2 m' hm'.1 hm'.2).1.2.2
  exact ⟨by omega, fun _ => next (fun _ => ⟨m', k', hm', h43', hk', h57'⟩), fun q => absurd (by omega) q⟩
/-! P: the reference combines -/
theorem al_bd {a b : Int} (ha : 0 ≤ a) (hb : 1 ≤ b ∧ b ≤ 16) : a ≤ (a + b - 1) / b * b ∧ (a + b - 1) / b * b ≤ a + 15 := by
  have h1 := Int.mul_ediv_add_emod (a + b - 1) b
  have h2 := Int.emod_nonneg (a + b - 1) (show b ≠ 0 by omega)
  have h3 := Int.emod_lt_of_pos (a + b - 1) (show 0 < b by omega)
  rw [Int.mul_comm] at h1
  omega
abbrev CA : List Nat := [67, 68, 69, 70, 71, 72]
def Done (σ τ : ZS) (v1 v2 : Int) : Prop := ∀ m s : Int, 0 ≤ m → m ≤ 2 → 0 ≤ s → s < zA σ 0 44 m → zA σ 0 43 m ≠ 0 → (m < v1 ∨ (m = v1 ∧ s < v2)) → (0 ≤ zA τ 0 71 (24 * m + s) ∧ zA τ 0 71 (24 * m + s) < zI τ 0 73) ∧ 0 ≤ zA τ 0 72 (24 * m + s) ∧ zA τ 0 72 (24 * m + s) + zA σ 0 48 (24 * m + s) ≤ zA τ 0 69 (zA τ 0 71 (24 * m + s))
def Cmb (σ τ : ZS) (N : Int) : Prop := fr [73] CA σ τ ∧ (0 ≤ zI τ 0 73 ∧ zI τ 0 73 ≤ N) ∧ (∀ j : Int, 0 ≤ j → j < zI τ 0 73 → (0 ≤ zA τ 0 69 j ∧ zA τ 0 69 j ≤ 415 * N) ∧ (0 ≤ zA τ 0 68 j ∧ zA τ 0 68 j ≤ 72057594037927936))
theorem Cmb.mo {σ τ : ZS} {N M : Int} (h : Cmb σ τ N) (hN : N ≤ M) : Cmb σ τ M := ⟨h.1, by have := h.2.1; omega, fun j a b => by have := h.2.2 j a b; omega⟩
/-- what combining leaves -/
def CB (τ : ZS) : Prop := (0 ≤ zI τ 0 73 ∧ zI τ 0 73 ≤ 72) ∧ (∀ m s : Int, 0 ≤ m → m ≤ 2 → 0 ≤ s → s < zA τ 0 44 m → zA τ 0 43 m ≠ 0 → (0 ≤ zA τ 0 71 (24 * m + s) ∧ zA τ 0 71 (24 * m + s) < zI τ 0 73) ∧ 0 ≤ zA τ 0 72 (24 * m + s) ∧ zA τ 0 72 (24 * m + s) + zA τ 0 48 (24 * m + s) ≤ zA τ 0 69 (zA τ 0 71 (24 * m + s))) ∧ (∀ j : Int, 0 ≤ j → j < zI τ 0 73 → (0 ≤ zA τ 0 69 j ∧ zA τ 0 69 j ≤ 30000) ∧ 0 ≤ zA τ 0 70 j ∧ zA τ 0 70 j + zA τ 0 69 j ≤ zA τ 0 67 0) ∧ (0 ≤ zA τ 0 67 0 ∧ zA τ 0 67 0 ≤ 3000000)
theorem s_combine {σ : ZS} {Q : ZS → Prop} (hA : MA σ) (hQ : ∀ τ : ZS, fr [73] CA σ τ → CB τ → Q τ) : wpX11_combine σ Q := by
  have f195 : ∀ τ : ZS, Cmb σ τ 72 → Done σ τ 3 0 → wpX11_combine_195 0 0 τ Q := by
    intro τ0 h0 hD0
    unfold wpX11_combine_195
    refine lfp2_ind (fun _ v _ => (zI τ0 0 73 - v).toNat) (fun e v τ => fr [] [70] τ0 τ ∧ (0 ≤ v ∧ v ≤ zI τ0 0 73) ∧ (0 ≤ e ∧ e ≤ 30000 * v) ∧ (∀ j : Int, 0 ≤ j → j < v → 0 ≤ zA τ 0 70 j ∧ zA τ 0 70 j + zA τ0 0 69 j ≤ e)) ?_ ⟨fr.rf, by have := h0.2.1; omega, by omega, fun j a b => absurd b (by omega)⟩
    intro P e v τ ⟨hf, hv, he, hj⟩ ih
    show wpbX11_combine_195 P e v τ Q
    have i73 : zI τ 0 73 = zI τ0 0 73 := hf.1 73 (by simp)
    have a69 : zA τ 0 69 = zA τ0 0 69 := hf.2 69 (by decide)
    have h73 := h0.2.1
    unfold wpbX11_combine_195
    rw [i73, a69]
    refine ⟨by omega, by omega, fun q => ?_, fun nq => ?_⟩
    · have hev : v = zI τ0 0 73 := by omega
      have hff : fr [73] CA σ (zsA τ 0 67 0 e) := (h0.1.tr (hf.up (by decide) (by decide))).ta (by decide)
      refine hQ _ hff ⟨?_, fun m s m0 m1 s0 s1 h43 => ?_, fun j j0 j1 => ?_, ?_⟩
      · show 0 ≤ zI τ 0 73 ∧ zI τ 0 73 ≤ 72
        rw [i73]; exact h73
      · rw [hff.2 44 (by decide)] at s1
        rw [hff.2 43 (by decide)] at h43
        have hd := hD0 m s m0 m1 s0 s1 h43 (Or.inl (by omega))
        show (0 ≤ zA τ 0 71 (24 * m + s) ∧ zA τ 0 71 (24 * m + s) < zI τ 0 73) ∧ 0 ≤ zA τ 0 72 (24 * m + s) ∧ zA τ 0 72 (24 * m + s) + zA τ 0 48 (24 * m + s) ≤ zA τ 0 69 (zA τ 0 71 (24 * m + s))
        rw [i73, a69, hf.2 71 (by decide), hf.2 72 (by decide), hf.2 48 (by decide), h0.1.2 48 (by decide)]
        exact hd
      · have j1' : j < zI τ0 0 73 := by
          have : j < zI τ 0 73 := j1
          omega
        show (0 ≤ zA τ 0 69 j ∧ zA τ 0 69 j ≤ 30000) ∧ 0 ≤ zA τ 0 70 j ∧ zA τ 0 70 j + zA τ 0 69 j ≤ zu (zA τ 0 67) 0 e 0
        rw [pu_eq, a69]
        have h1 := (h0.2.2 j j0 j1').1
        have h2 := hj j j0 (by omega)
        omega
      · show 0 ≤ zu (zA τ 0 67) 0 e 0 ∧ zu (zA τ 0 67) 0 e 0 ≤ 3000000
        rw [pu_eq]; omega
    · have h69 := (h0.2.2 v hv.1 (by omega)).1
      have ez : zA (zsA τ 0 70 v ((e + 15) / 16 * 16)) 0 70 v = (e + 15) / 16 * 16 := pu_eq (h := zA τ 0 70)
      rw [ez]
      refine ⟨by omega, by omega, ih _ _ _ ⟨hf.ta (by decide), by omega, by omega, fun j j0 j1 => ?_⟩ (by show (zI τ0 0 73 - (v + 1)).toNat < (zI τ0 0 73 - v).toNat; omega)⟩
      show 0 ≤ zu (zA τ 0 70) v ((e + 15) / 16 * 16) j ∧ zu (zA τ 0 70) v ((e + 15) / 16 * 16) j + zA τ0 0 69 j ≤ _
      by_cases ej : j = v
      · rw [ej, pu_eq]; omega
      · rw [pu_ne ej]
        have := hj j j0 (by omega)
        omega
  unfold wpX11_combine wpX11_combine_7
  refine lfp1_ind (fun v _ => (3 - v).toNat) (fun v τ => (0 ≤ v ∧ v ≤ 3) ∧ Cmb σ τ (24 * v) ∧ Done σ τ v 0) ?_ ⟨by omega, ⟨fr.i (by decide), by show 0 ≤ (0 : Int) ∧ (0 : Int) ≤ 24 * 0; decide, fun j a b => absurd b (by show ¬ j < 0; omega)⟩, fun m s m0 m1 s0 s1 h43 q => by omega⟩
  intro P m τ ⟨hm, hC, hD⟩ ih
  show wpbX11_combine_7 P m τ Q
  unfold wpbX11_combine_7
  refine ⟨by omega, fun q => ?_, fun nq => ?_⟩
  · have e3 : m = 3 := by omega
    rw [e3] at hC hD
    exact f195 τ hC hD
  have hMI := hA.2 m hm.1 (by omega)
  have hM := hMI.1.1
  have h43 := hA.1.2.2.2.2 m hm.1 (by omega)
  unfold wpX11_combine_14
  refine lfp1_ind (fun v _ => (24 - v).toNat) (fun v τ => (0 ≤ v ∧ v ≤ zA σ 0 44 m) ∧ Cmb σ τ (24 * m + v) ∧ Done σ τ m v) ?_ ⟨by omega, by rw [Int.add_zero]; exact hC, hD⟩
  intro P14 s τ1 ⟨hs, hC1, hD1⟩ ih14
  show wpbX11_combine_14 P P14 m s τ1 Q
  unfold wpbX11_combine_14 wpX11_combine_185
  have b := hC1.1.2
  have out : zA σ 0 43 m = 0 ∨ s = zA σ 0 44 m → P (m + 1) τ1 := by
    intro hq
    refine ih _ _ ⟨by omega, hC1.mo (by omega), fun m' s' m0 m1 s0 s1 h q => ?_⟩ (by show (3 - (m + 1)).toNat < (3 - m).toNat; omega)
    refine hD1 m' s' m0 m1 s0 s1 h ?_
    by_cases em : m' = m
    · rw [em] at s1 h
      rcases hq with z | z
      · exact absurd z h
      · exact Or.inr ⟨em, by omega⟩
    · exact Or.inl (by omega)
  rw [b 44 (by decide), b 43 (by decide)]
  refine ⟨by omega, by omega, by omega, fun _ => out (Or.inr (by omega)), fun ne => ⟨by omega, fun z => out (Or.inl z), fun nz => ?_⟩⟩
  have hsg := hMI.2.1 s hs.1 (by omega)
  have h45 := hA.1.1 (24 * m + s) (by omega) (by omega)
  -- the piece takes its place
  have f115 : ∀ (j : Int) (υ : ZS), (0 ≤ j ∧ j < zI υ 0 73) → Cmb σ υ (24 * m + s + 1) → (zA υ 0 69 j ≤ 415 * (24 * m + s)) → Done σ υ m s → wpX11_combine_115 P P14 m s (24 * m + s) j υ Q := by
    intro j υ hj hCu h69u hDu
    have bu := hCu.1.2
    have hju := hCu.2.2 j hj.1 hj.2
    have hN := hCu.2.1
    have hal := al_bd hju.1.1 hsg.2.2.2
    have e72 : zA (zsA (zsA υ 0 71 (24 * m + s) j) 0 72 (24 * m + s) ((zA υ 0 69 j + zA σ 0 46 (24 * m + s) - 1) / zA σ 0 46 (24 * m + s) * zA σ 0 46 (24 * m + s))) 0 72 (24 * m + s) = (zA υ 0 69 j + zA σ 0 46 (24 * m + s) - 1) / zA σ 0 46 (24 * m + s) * zA σ 0 46 (24 * m + s) := pu_eq (h := zA υ 0 72)
    unfold wpX11_combine_115
    rw [bu 46 (by decide), bu 48 (by decide), e72]
    obtain ⟨A, hAe⟩ : ∃ A, A = (zA υ 0 69 j + zA σ 0 46 (24 * m + s) - 1) / zA σ 0 46 (24 * m + s) * zA σ 0 46 (24 * m + s) := ⟨_, rfl⟩
    rw [← hAe] at hal ⊢
    refine ⟨by omega, by omega, by omega, by omega, ih14 _ _ ⟨by omega, ⟨((hCu.1.ta (by decide)).ta (by decide)).ta (by decide), ?_, fun i i0 i1 => ?_⟩, fun m' s' m0 m1 s0 s1 h q => ?_⟩ (by show (24 - (s + 1)).toNat < (24 - s).toNat; omega)⟩
    · show 0 ≤ zI υ 0 73 ∧ zI υ 0 73 ≤ 24 * m + (s + 1)
      omega
    · have hi := hCu.2.2 i i0 i1
      show (0 ≤ zu (zA υ 0 69) j (A + zA σ 0 48 (24 * m + s)) i ∧ zu (zA υ 0 69) j (A + zA σ 0 48 (24 * m + s)) i ≤ 415 * (24 * m + (s + 1))) ∧ _
      refine ⟨?_, hi.2⟩
      by_cases e : i = j
      · rw [e, pu_eq]; omega
      · rw [pu_ne e]; omega
    · show (0 ≤ zu (zA υ 0 71) (24 * m + s) j (24 * m' + s') ∧ zu (zA υ 0 71) (24 * m + s) j (24 * m' + s') < zI υ 0 73) ∧ 0 ≤ zu (zA υ 0 72) (24 * m + s) A (24 * m' + s') ∧ zu (zA υ 0 72) (24 * m + s) A (24 * m' + s') + zA σ 0 48 (24 * m' + s') ≤ zu (zA υ 0 69) j (A + zA σ 0 48 (24 * m + s)) (zu (zA υ 0 71) (24 * m + s) j (24 * m' + s'))
      have h24 := (hA.2 m' m0 m1).1.1
      by_cases e : 24 * m' + s' = 24 * m + s
      · rw [e, pu_eq, pu_eq, pu_eq]
        exact ⟨hj, by omega, Int.le_refl _⟩
      · rw [pu_ne e, pu_ne e]
        have hd := hDu m' s' m0 m1 s0 s1 h (by omega)
        refine ⟨hd.1, hd.2.1, ?_⟩
        by_cases e2 : zA υ 0 71 (24 * m' + s') = j
        · rw [e2, pu_eq]
          rw [e2] at hd
          omega
        · rw [pu_ne e2]; exact hd.2.2
  have f75 : ∀ j : Int, (0 ≤ j ∧ j ≤ zI τ1 0 73) → wpX11_combine_75 P P14 m s (24 * m + s) j τ1 Q := by
    intro j hj
    have hN := hC1.2.1
    unfold wpX11_combine_75
    rw [b 45 (by decide)]
    refine ⟨by omega, by omega, fun nj => f115 j τ1 (by omega) (hC1.mo (by omega)) (by have := hC1.2.2 j hj.1 (by omega); omega) hD1, fun ej => ⟨by omega, by omega, ?_⟩⟩
    refine f115 j _ ?_ ⟨(((hC1.1.ta (by decide)).ta (by decide)).ti (by decide)), ?_, fun i i0 i1 => ?_⟩ ?_ (fun m' s' m0 m1 s0 s1 h q => ?_)
    · show 0 ≤ j ∧ j < zI τ1 0 73 + 1
      omega
    · show 0 ≤ zI τ1 0 73 + 1 ∧ zI τ1 0 73 + 1 ≤ 24 * m + s + 1
      omega
    · have i1' : i < zI τ1 0 73 + 1 := i1
      show (0 ≤ zu (zA τ1 0 69) j 0 i ∧ zu (zA τ1 0 69) j 0 i ≤ 415 * (24 * m + s + 1)) ∧ (0 ≤ zu (zA τ1 0 68) j (zA σ 0 45 (24 * m + s)) i ∧ zu (zA τ1 0 68) j (zA σ 0 45 (24 * m + s)) i ≤ 72057594037927936)
      by_cases e : i = j
      · rw [e, pu_eq, pu_eq]; omega
      · rw [pu_ne e, pu_ne e]
        have := hC1.2.2 i i0 (by omega)
        omega
    · show zu (zA τ1 0 69) j 0 j ≤ 415 * (24 * m + s)
      rw [pu_eq]; omega
    · have hd := hD1 m' s' m0 m1 s0 s1 h q
      show (0 ≤ zA τ1 0 71 (24 * m' + s') ∧ zA τ1 0 71 (24 * m' + s') < zI τ1 0 73 + 1) ∧ 0 ≤ zA τ1 0 72 (24 * m' + s') ∧ zA τ1 0 72 (24 * m' + s') + zA σ 0 48 (24 * m' + s') ≤ zu (zA τ1 0 69) j 0 (zA τ1 0 71 (24 * m' + s'))
      rw [pu_ne (by omega)]
      exact ⟨by omega, hd.2⟩
  unfold wpX11_combine_43
  refine lfp1_ind (fun v _ => (zI τ1 0 73 - v).toNat) (fun v τ => τ = τ1 ∧ (0 ≤ v ∧ v ≤ zI τ1 0 73)) ?_ ⟨rfl, by have := hC1.2.1; omega⟩
  intro P43 j τ2 ⟨he, hj⟩ ih43
  rw [he]
  show wpbX11_combine_43 P P14 P43 m s (24 * m + s) j τ1 Q
  have hN := hC1.2.1
  unfold wpbX11_combine_43
  rw [b 45 (by decide)]
  refine ⟨by omega, by omega, fun _ => f75 j hj, fun nj => ?_⟩
  have h68 := (hC1.2.2 j hj.1 (by omega)).2
  exact ⟨by omega, by omega, by omega, by omega, fun _ => f75 j hj, fun _ => ih43 _ _ ⟨rfl, by omega⟩ (by show (zI τ1 0 73 - (j + 1)).toNat < (zI τ1 0 73 - j).toNat; omega)⟩
