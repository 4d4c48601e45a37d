/-! X: a written module is there -/
abbrev WB : List Nat := [44, 45, 46, 47, 48, 49, 50, 51, 52, 53, 54, 55, 56, 57, 58, 59]
def WIb (β : ZS) (m : Int) (τ : ZS) : Prop := fr [] WB β τ ∧ OU m β τ ∧ GM τ ∧ zA τ 0 44 m = zI β 0 34
theorem s_write_b {β : ZS} {m : Int} {Q : ZS → Prop} (hW : WC β) (hM : GM β) (hm : 0 ≤ m ∧ m ≤ 2) (hQ : ∀ τ : ZS, fr [] WB β τ → OU m β τ → GM τ → MI τ m → Q τ) : wpX11_write_35 m 0 0 (zsA (zsA (zsA β 0 44 m (zI β 0 34)) 0 50 m 0) 0 56 m 0) Q := by
  have hWC := hW
  obtain ⟨w1, w2, w3, wO, wL, wS, w24, wal, wsum, wne, wab, wpb, wus, wcn⟩ := hW
  obtain ⟨s31, s34, sg⟩ := wS
  have hnn : ∀ j : Int, 0 ≤ j → j < ((zI β 0 34).toNat : Int) → 0 ≤ zA β 0 36 j := fun j a b => (wL.1 j a (by omega)).1
  have hps : ∀ s : Int, 0 ≤ s → psum (zA β 0 36) (s + 1).toNat = psum (zA β 0 36) s.toNat + zA β 0 36 s := by
    intro s s0
    rw [show (s + 1).toNat = s.toNat + 1 by omega]
    show psum (zA β 0 36) s.toNat + zA β 0 36 ((s.toNat : Nat) : Int) = _
    rw [show ((s.toNat : Nat) : Int) = s by omega]
  have hpm : ∀ s : Int, 0 ≤ s → s ≤ zI β 0 34 → 0 ≤ psum (zA β 0 36) s.toNat ∧ psum (zA β 0 36) s.toNat ≤ 400 := by
    intro s s0 s1
    have := psum_mono (f := zA β 0 36) (m := s.toNat) (zI β 0 34).toNat (by omega) hnn
    exact ⟨psum_nn _ (fun j a b => hnn j a (by omega)), by omega⟩
  -- the publics
  have f183 : ∀ τ : ZS, WIb β m τ → MS β m τ (zI β 0 34) → FX β m τ → (0 ≤ zA τ 0 50 m ∧ zA τ 0 50 m ≤ 200) → zA τ 0 56 m = 0 → wpX11_write_183 m 0 τ Q := by
    intro τ0 h0 hS0 hX0 hc0 he0
    unfold wpX11_write_183
    refine lfp1_ind (fun v _ => (zI β 0 23 - v).toNat) (fun v τ => WIb β m τ ∧ MS β m τ (zI β 0 34) ∧ FX β m τ ∧ (0 ≤ zA τ 0 50 m ∧ zA τ 0 50 m ≤ 200) ∧ (0 ≤ v ∧ v ≤ zI β 0 23) ∧ zA τ 0 56 m = cntP (zA β 0 19) v.toNat ∧ PB β m τ) ?_ ⟨h0, hS0, hX0, hc0, by omega, he0, fun k k0 k1 => absurd k1 (by rw [he0]; omega)⟩
    intro P v τ ⟨hI, hS, hX, hc, hv, h56, hP⟩ ih
    obtain ⟨hf, hO, hG, h44⟩ := hI
    have b := hf.2
    have i23 : zI τ 0 23 = zI β 0 23 := hf.1 23 (by decide)
    have hcl := cntP_le (h := zA β 0 19) v.toNat
    show wpbX11_write_183 P m v τ Q
    unfold wpbX11_write_183 wpX11_write_280
    rw [i23, b 19 (by decide), b 20 (by decide), b 12 (by decide), b 14 (by decide), b 16 (by decide)]
    refine ⟨by omega, by omega, fun e => ?_, fun ne => ?_⟩
    · have hev : v = zI β 0 23 := by omega
      rw [hev] at h56 hcl
      refine hQ τ hf hO hG ⟨⟨by omega, hc, by omega⟩, fun s s0 s1 => ?_, fun k k0 k1 => ?_, fun k k0 k1 => ?_⟩
      · rw [h44] at s1
        obtain ⟨x1, x2, x3, x4⟩ := hS s s0 s1
        rw [x1, x2]
        have h1 := hpm s s0 (by omega)
        have h2 := hpm (s + 1) (by omega) (by omega)
        have h3 := hps s s0
        have h4 := wL.1 s s0 s1
        exact ⟨h1.1, h4.1, by omega, x3, x4⟩
      · obtain ⟨y1, y2, y3, y4, y5⟩ := hX k k0 k1
        rw [h44]
        refine ⟨y1, y2, y3, ?_, y5⟩
        rw [(hS _ y2.1 y2.2).2.1]; exact y4
      · rw [h44]; exact hP k k0 k1
    · have hu := w2 v hv.1 (by omega)
      have hcv : cntP (zA β 0 19) (v + 1).toNat = cntP (zA β 0 19) v.toNat + (if zA β 0 19 v = 0 then 1 else 0) := by
        rw [show (v + 1).toNat = v.toNat + 1 by omega]
        show cntP (zA β 0 19) v.toNat + (if zA β 0 19 ((v.toNat : Nat) : Int) = 0 then 1 else 0) = _
        rw [show ((v.toNat : Nat) : Int) = v by omega]
      have hcm := cntP_mono (h := zA β 0 19) (m := (v + 1).toNat) (zI β 0 23).toNat (by omega)
      refine ⟨by omega, by omega, fun z => ?_, fun nz => ?_⟩
      · rw [if_pos z] at hcv
        have hn := hu.2.1
        have ha := wus.1
        have hk : 0 ≤ zA τ 0 56 m ∧ zA τ 0 56 m ≤ 79 := by omega
        have hn14 := wpb v hv.1 (by omega) z
        have hn16 := wO _ hn.1 hn.2
        refine ⟨by omega, hn, by omega, ih _ _ ⟨⟨((((hf.ta (by decide)).ta (by decide)).ta (by decide)).ta (by decide)), (((hO.u57.u58 (by omega)).u59 (by omega)).u56), hG.u57 (w1 _ hn.1 hn.2).2.2.2, h44⟩, hS, hX, hc, by omega, ?_, ?_⟩ (by show (zI β 0 23 - (v + 1)).toNat < (zI β 0 23 - v).toNat; omega)⟩
        · show zu (zA τ 0 56) m (zA τ 0 56 m + 1) m = _
          rw [pu_eq, h56, hcv]
        · intro k k0 k1
          have k1' : k < zA τ 0 56 m + 1 := by
            have e : zA (zsA (zsA (zsA (zsA τ 0 57 (80 * m + zA τ 0 56 m) (zA β 0 12 (zA β 0 20 v))) 0 58 (80 * m + zA τ 0 56 m) (zA β 0 14 (zA β 0 20 v))) 0 59 (80 * m + zA τ 0 56 m) (zA β 0 16 (zA β 0 20 v))) 0 56 m (zA τ 0 56 m + 1)) 0 56 m = zA τ 0 56 m + 1 := pu_eq (h := zA τ 0 56)
            rw [e] at k1; exact k1
          show (0 ≤ zu (zA τ 0 58) (80 * m + zA τ 0 56 m) (zA β 0 14 (zA β 0 20 v)) (80 * m + k) ∧ zu (zA τ 0 58) (80 * m + zA τ 0 56 m) (zA β 0 14 (zA β 0 20 v)) (80 * m + k) < zI β 0 34) ∧ (0 ≤ zu (zA τ 0 59) (80 * m + zA τ 0 56 m) (zA β 0 16 (zA β 0 20 v)) (80 * m + k) ∧ zu (zA τ 0 59) (80 * m + zA τ 0 56 m) (zA β 0 16 (zA β 0 20 v)) (80 * m + k) ≤ 62000)
          by_cases e : k = zA τ 0 56 m
          · rw [e, pu_eq, pu_eq]; exact ⟨hn14, hn16⟩
          · have hne : 80 * m + k ≠ 80 * m + zA τ 0 56 m := by omega
            rw [pu_ne hne, pu_ne hne]
            exact hP k k0 (by omega)
      · rw [if_neg nz] at hcv
        exact ih _ _ ⟨⟨hf, hO, hG, h44⟩, hS, hX, hc, by omega, by omega, hP⟩ (by show (zI β 0 23 - (v + 1)).toNat < (zI β 0 23 - v).toNat; omega)
  -- the pieces
  have f161 : ∀ τ : ZS, WIb β m τ → MS β m τ (zI β 0 34) → zA τ 0 50 m = 0 → zA τ 0 56 m = 0 → wpX11_write_161 m 0 τ Q := by
    intro τ0 h0 hS0 hc0 he0
    unfold wpX11_write_161
    refine lfp1_ind (fun v _ => (zI β 0 31 - v).toNat) (fun v τ => WIb β m τ ∧ MS β m τ (zI β 0 34) ∧ FX β m τ ∧ (0 ≤ zA τ 0 50 m ∧ 2 * zA τ 0 50 m ≤ psum (szp β) v.toNat) ∧ (0 ≤ v ∧ v ≤ zI β 0 31) ∧ zA τ 0 56 m = 0) ?_ ⟨h0, hS0, fun k k0 k1 => absurd k1 (by rw [hc0]; omega), by rw [hc0]; exact ⟨Int.le_refl _, Int.le_refl _⟩, by omega, he0⟩
    intro P v τ ⟨hI, hS, hX, hc, hv, h56⟩ ih
    obtain ⟨hf, hO, hG, h44⟩ := hI
    have i31 : zI τ 0 31 = zI β 0 31 := hf.1 31 (by decide)
    show wpbX11_write_161 P m v τ Q
    unfold wpbX11_write_161
    rw [i31]
    refine ⟨by omega, by omega, fun e => ?_, fun ne => ?_⟩
    · have hev : v = zI β 0 31 := by omega
      have h3 := wL.2.2
      rw [hev] at hc
      exact f183 τ ⟨hf, hO, hG, h44⟩ hS hX (by omega) h56
    · refine s_put hWC hm ⟨hv.1, by omega⟩ (hf.up (by decide) (by decide)) (fun s s0 s1 => ⟨(hS s s0 s1).1, (hS s s0 s1).2.1⟩) hG hX hc (fun υ hfu hOu hGu hXu hcu => ?_)
      have e46 : zA υ 0 46 = zA τ 0 46 := hfu.2 46 (by decide)
      have e47 : zA υ 0 47 = zA τ 0 47 := hfu.2 47 (by decide)
      have e48 : zA υ 0 48 = zA τ 0 48 := hfu.2 48 (by decide)
      have e44 : zA υ 0 44 = zA τ 0 44 := hfu.2 44 (by decide)
      have e56 : zA υ 0 56 = zA τ 0 56 := hfu.2 56 (by decide)
      refine ih _ _ ⟨⟨hf.tr (hfu.up (by decide) (by decide)), hO.tr hOu, hGu, by rw [e44]; exact h44⟩, ?_, hXu, hcu, by omega, by rw [e56]; exact h56⟩ (by show (zI β 0 31 - (v + 1)).toNat < (zI β 0 31 - v).toNat; omega)
      intro s s0 s1
      rw [e46, e47, e48]; exact hS s s0 s1
  -- the bytes are cleared
  have f133 : ∀ τ : ZS, WIb β m τ → MS β m τ (zI β 0 34) → zA τ 0 50 m = 0 → zA τ 0 56 m = 0 → wpX11_write_133 m 0 τ Q := by
    intro τ0 h0 hS0 hc0 he0
    unfold wpX11_write_133
    refine lfp1_ind (fun v _ => (400 - v).toNat) (fun v τ => WIb β m τ ∧ MS β m τ (zI β 0 34) ∧ zA τ 0 50 m = 0 ∧ (0 ≤ v ∧ v ≤ 400) ∧ zA τ 0 56 m = 0) ?_ ⟨h0, hS0, hc0, by omega, he0⟩
    intro P v τ ⟨hI, hS, hc, hv, h56⟩ ih
    show wpbX11_write_133 P m v τ Q
    unfold wpbX11_write_133
    refine ⟨by omega, fun e => f161 τ hI hS hc h56, fun ne => ⟨by omega, ih _ _ ⟨⟨hI.1.ta (by decide), hI.2.1.u49, hI.2.2.1.u49 (by decide), hI.2.2.2⟩, hS, hc, by omega, h56⟩ (by show (400 - (v + 1)).toNat < (400 - v).toNat; omega)⟩⟩
  unfold wpX11_write_35
  refine lfp2_ind (fun _ v _ => (zI β 0 34 - v).toNat) (fun a v τ => WIb β m τ ∧ MS β m τ v ∧ zA τ 0 50 m = 0 ∧ (0 ≤ v ∧ v ≤ zI β 0 34) ∧ zA τ 0 56 m = 0 ∧ a = psum (zA β 0 36) v.toNat) ?_ ⟨⟨(((fr.rf.ta (by decide)).ta (by decide)).ta (by decide)), (OU.rf.u44.u50.u56), hM, pu_eq (h := zA β 0 44)⟩, fun s s0 s1 => absurd s1 (by omega), pu_eq (h := zA β 0 50), by omega, pu_eq (h := zA β 0 56), rfl⟩
  intro P a v τ ⟨hI, hS, hc, hv, h56, ha⟩ ih
  obtain ⟨hf, hO, hG, h44⟩ := hI
  have b := hf.2
  have i34 : zI τ 0 34 = zI β 0 34 := hf.1 34 (by decide)
  show wpbX11_write_35 P m a v τ Q
  unfold wpbX11_write_35
  rw [i34, b 35 (by decide), b 12 (by decide), b 15 (by decide), b 36 (by decide)]
  refine ⟨by omega, by omega, fun e => ?_, fun ne => ?_⟩
  · have hev : v = zI β 0 34 := by omega
    exact f133 τ ⟨hf, hO, hG, h44⟩ (hev ▸ hS) hc h56
  · have hn := (wal v hv.1 (by omega)).1
    have hal := (wal v hv.1 (by omega)).2
    have hg := w1 _ hn.1 hn.2
    refine ⟨by omega, hn, by omega, ih _ _ _ ⟨⟨((((hf.ta (by decide)).ta (by decide)).ta (by decide)).ta (by decide)), (((hO.u45.u46 (by omega)).u47 (by omega)).u48 (by omega)), hG.u45 hg.2.2.2, h44⟩, ?_, hc, by omega, h56, ?_⟩ (by show (zI β 0 34 - (v + 1)).toNat < (zI β 0 34 - v).toNat; omega)⟩
    · intro s s0 s1
      show zu (zA τ 0 47) (24 * m + v) a (24 * m + s) = _ ∧ zu (zA τ 0 48) (24 * m + v) (zA β 0 36 v) (24 * m + s) = _ ∧ 1 ≤ zu (zA τ 0 46) (24 * m + v) (zA β 0 15 (zA β 0 35 v)) (24 * m + s) ∧ zu (zA τ 0 46) (24 * m + v) (zA β 0 15 (zA β 0 35 v)) (24 * m + s) ≤ 16
      by_cases e : s = v
      · rw [e, pu_eq, pu_eq, pu_eq]; exact ⟨ha, rfl, hal, hg.2.2.1.2⟩
      · have hne : 24 * m + s ≠ 24 * m + v := by omega
        rw [pu_ne hne, pu_ne hne, pu_ne hne]
        exact hS s s0 (by omega)
    · rw [ha, hps v hv.1]
theorem s_write4 {β : ZS} {m : Int} {Q : ZS → Prop} (hW : WC β) (hM : GM β) (hm : 0 ≤ m ∧ m ≤ 2) (hQ : ∀ τ : ZS, fr [] WA β τ → OU m β τ → GM τ → MI τ m → zA τ 0 43 = zu (zA β 0 43) m 1 → Q τ) : wpX11_write m β Q := by
  unfold wpX11_write
  refine ⟨by omega, s_write_b (β := zsA β 0 43 m 1) hW (hM.u43 (by decide)) hm (fun τ f o g mi => ?_)⟩
  have f0 : fr [] WA β (zsA β 0 43 m 1) := fr.rf.ta (by decide)
  exact hQ τ (f0.tr (f.up (by decide) (by decide))) ((OU.rf.u43 (v := 1)).tr o) g mi (f.2 43 (by decide))
theorem h_addSegment {g w a z st : Int} {σ : ZS} {Q : ZS → Prop} (hg : 0 ≤ g ∧ g ≤ 2) (h : MO σ g) (hlt : zI σ g 1 < 24) (hw : 0 ≤ w ∧ w ≤ 4398046511103) (ha : al a) (hz : 0 ≤ z) (hs0 : zI σ g 1 = 0 → st = 0) (hs1 : 0 < zI σ g 1 → zA σ g 5 (zI σ g 1 - 1) + zA σ g 4 (zI σ g 1 - 1) = st) (h4 : 0 ≤ st ∧ st + z ≤ 400) (hQ : ∀ τ : ZS, MO τ g → kp [g] σ τ → zI τ g 1 = zI σ g 1 + 1 → zA τ g 5 (zI σ g 1) + zA τ g 4 (zI σ g 1) = st + z → zI τ g 0 = zI σ g 0 → Q τ) : wpX6_addSegment g w a z σ Q := by
  obtain ⟨a0, a1, a7, a13, b1, b2, b3, b4⟩ := h
  have key : ∀ τ : ZS, kp [g] σ τ → zI τ g 0 = zI σ g 0 → zI τ g 1 = zI σ g 1 + 1 → zI τ g 7 = zI σ g 7 → zI τ g 13 = zI σ g 13 → zA τ g 2 = zu (zA σ g 2) (zI σ g 1) w → zA τ g 3 = zu (zA σ g 3) (zI σ g 1) a → zA τ g 4 = zu (zA σ g 4) (zI σ g 1) z → zA τ g 5 = zu (zA σ g 5) (zI σ g 1) st → (zA τ g 6 = zA σ g 6 ∧ zA τ g 8 = zA σ g 8 ∧ zA τ g 9 = zA σ g 9 ∧ zA τ g 10 = zA σ g 10 ∧ zA τ g 11 = zA σ g 11 ∧ zA τ g 12 = zA σ g 12 ∧ zA τ g 14 = zA σ g 14 ∧ zA τ g 15 = zA σ g 15 ∧ zA τ g 16 = zA σ g 16) → Q τ := by
    intro τ k e0 e1 e7 e13 f2 f3 f4 f5 ⟨f6, f8, f9, f10, f11, f12, f14, f15, f16⟩
    refine hQ τ ⟨by rw [e0]; exact a0, by omega, by rw [e7]; exact a7, by rw [e13]; exact a13, fun s s0 s1 => ?_, ?_, ?_, ?_⟩ k e1 ?_ e0
    · rw [f2, f3, f4, f5]
      by_cases e : s = zI σ g 1
      · rw [e, pu_eq, pu_eq, pu_eq, pu_eq]; exact ⟨hw, ha, hz, h4.1, h4.2⟩
      · rw [pu_ne e, pu_ne e, pu_ne e, pu_ne e]; exact b1 s s0 (by omega)
    · unfold MBy; rw [f6]; exact b2
    · unfold MFx; rw [e7, f8, f9, f10, f11, f12]; exact b3
    · unfold MPb; rw [e13, f14, f15, f16]; exact b4
    · rw [f4, f5, pu_eq, pu_eq]
  have f44 : ∀ x : Int, x = st → wpX6_addSegment_44 g w a z x σ Q := by
    intro x hx
    rw [hx]
    unfold wpX6_addSegment_44 wpX6_addSegment_96
    refine ⟨hg, by omega, ?_⟩
    have kk : kp [g] σ (zsI (zsA (zsA (zsA (zsA σ g 2 (zI σ g 1) w) g 3 (zI σ g 1) a) g 4 (zI σ g 1) z) g 5 (zI σ g 1) st) g 1 ((zI σ g 1) + 1)) := ((((kp.rf.ta m_1).ta m_1).ta m_1).ta m_1).ti m_1
    clear hQ b1 b2 b3 b4 hs0 hs1
    obtain rfl | rfl | rfl : g = 0 ∨ g = 1 ∨ g = 2 := by omega
    · exact key _ kk rfl rfl rfl rfl rfl rfl rfl rfl ⟨rfl, rfl, rfl, rfl, rfl, rfl, rfl, rfl, rfl⟩
    · exact key _ kk rfl rfl rfl rfl rfl rfl rfl rfl ⟨rfl, rfl, rfl, rfl, rfl, rfl, rfl, rfl, rfl⟩
    · exact key _ kk rfl rfl rfl rfl rfl rfl rfl rfl ⟨rfl, rfl, rfl, rfl, rfl, rfl, rfl, rfl, rfl⟩
  unfold wpX6_addSegment
  exact ⟨hg, by omega, fun q => absurd q (by omega), fun _ => ⟨fun q => f44 0 (hs0 (by omega)).symm, fun q => ⟨by omega, f44 _ (hs1 (by omega))⟩⟩⟩
theorem h_addPublic {g w s o : Int} {σ : ZS} {Q : ZS → Prop} (hg : 0 ≤ g ∧ g ≤ 2) (h : MO σ g) (hw : 0 ≤ w ∧ w ≤ 4398046511103) (hs : 0 ≤ s ∧ s < 24) (ho : 0 ≤ o ∧ o ≤ 20000) (hQ : ∀ τ : ZS, MO τ g → kp [g] σ τ → zI τ g 0 = zI σ g 0 → Q τ) : wpX6_addPublic g w s o σ Q := by
  have h' := h
  obtain ⟨a0, a1, a7, a13, b1, b2, b3, b4⟩ := h'
  have key : ∀ τ : ZS, zI σ g 13 < 24 → kp [g] σ τ → zI τ g 0 = zI σ g 0 → zI τ g 1 = zI σ g 1 → zI τ g 7 = zI σ g 7 → zI τ g 13 = zI σ g 13 + 1 → zA τ g 14 = zu (zA σ g 14) (zI σ g 13) w → zA τ g 15 = zu (zA σ g 15) (zI σ g 13) s → zA τ g 16 = zu (zA σ g 16) (zI σ g 13) o → (zA τ g 6 = zA σ g 6 ∧ zA τ g 8 = zA σ g 8 ∧ zA τ g 9 = zA σ g 9 ∧ zA τ g 10 = zA σ g 10 ∧ zA τ g 11 = zA σ g 11 ∧ zA τ g 12 = zA σ g 12 ∧ zA τ g 2 = zA σ g 2 ∧ zA τ g 3 = zA σ g 3 ∧ zA τ g 4 = zA σ g 4 ∧ zA τ g 5 = zA σ g 5) → Q τ := by
    intro τ lt k e0 e1 e7 e13 f14 f15 f16 ⟨f6, f8, f9, f10, f11, f12, f2, f3, f4, f5⟩
    refine hQ τ ⟨by rw [e0]; exact a0, by rw [e1]; exact a1, by rw [e7]; exact a7, by omega, ?_, ?_, ?_, fun q q0 q1 => ?_⟩ k e0
    · unfold MSg; rw [e1, f2, f3, f4, f5]; exact b1
    · unfold MBy; rw [f6]; exact b2
    · unfold MFx; rw [e7, f8, f9, f10, f11, f12]; exact b3
    · rw [f14, f15, f16]
      by_cases e : q = zI σ g 13
      · rw [e, pu_eq, pu_eq, pu_eq]; exact ⟨hw, hs, ho⟩
      · rw [pu_ne e, pu_ne e, pu_ne e]; exact b4 q q0 (by omega)
  unfold wpX6_addPublic wpX6_addPublic_58
  refine ⟨hg, c_publicNumber hg h hw (fun x x0 x1 _ _ => ⟨by omega, fun _ => hQ σ h kp.rf rfl, fun q => absurd x0 q⟩) (fun _ => ⟨by decide, fun q => absurd q (by decide), fun _ => ⟨by omega, fun _ => hQ σ h kp.rf rfl, fun q => ⟨by omega, ?_⟩⟩⟩)⟩
  have kk : kp [g] σ (zsI (zsA (zsA (zsA σ g 14 (zI σ g 13) w) g 15 (zI σ g 13) s) g 16 (zI σ g 13) o) g 13 ((zI σ g 13) + 1)) := (((kp.rf.ta m_1).ta m_1).ta m_1).ti m_1
  have lt : zI σ g 13 < 24 := by omega
  clear hQ b1 b2 b3 b4 h
  obtain rfl | rfl | rfl : g = 0 ∨ g = 1 ∨ g = 2 := by omega
  · exact key _ lt kk rfl rfl rfl rfl rfl rfl rfl ⟨rfl, rfl, rfl, rfl, rfl, rfl, rfl, rfl, rfl, rfl⟩
  · exact key _ lt kk rfl rfl rfl rfl rfl rfl rfl ⟨rfl, rfl, rfl, rfl, rfl, rfl, rfl, rfl, rfl, rfl⟩
  · exact key _ lt kk rfl rfl rfl rfl rfl rfl rfl ⟨rfl, rfl, rfl, rfl, rfl, rfl, rfl, rfl, rfl, rfl⟩
theorem h_addFixup {g t s p a w : Int} {σ : ZS} {Q : ZS → Prop} (hg : 0 ≤ g ∧ g ≤ 2) (h : MO σ g) (ht : 0 ≤ t ∧ t ≤ 2) (hs : 0 ≤ s ∧ s < 24) (hp : 0 ≤ p ∧ p ≤ 20010) (ha : -1 ≤ a ∧ a < 24) (hw : 0 ≤ w ∧ w ≤ 4398046511103) (hQ : ∀ τ : ZS, MO τ g → kp [g] σ τ → zI τ g 0 = zI σ g 0 → Q τ) : wpX6_addFixup g t s p a w σ Q := by
  have h' := h
  obtain ⟨a0, a1, a7, a13, b1, b2, b3, b4⟩ := h'
  have key : ∀ τ : ZS, zI σ g 7 < 200 → kp [g] σ τ → zI τ g 0 = zI σ g 0 → zI τ g 1 = zI σ g 1 → zI τ g 7 = zI σ g 7 + 1 → zI τ g 13 = zI σ g 13 → zA τ g 8 = zu (zA σ g 8) (zI σ g 7) t → zA τ g 9 = zu (zA σ g 9) (zI σ g 7) s → zA τ g 10 = zu (zA σ g 10) (zI σ g 7) p → zA τ g 11 = zu (zA σ g 11) (zI σ g 7) a → zA τ g 12 = zu (zA σ g 12) (zI σ g 7) w → (zA τ g 6 = zA σ g 6 ∧ zA τ g 14 = zA σ g 14 ∧ zA τ g 15 = zA σ g 15 ∧ zA τ g 16 = zA σ g 16 ∧ zA τ g 2 = zA σ g 2 ∧ zA τ g 3 = zA σ g 3 ∧ zA τ g 4 = zA σ g 4 ∧ zA τ g 5 = zA σ g 5) → Q τ := by
    intro τ lt k e0 e1 e7 e13 f8 f9 f10 f11 f12 ⟨f6, f14, f15, f16, f2, f3, f4, f5⟩
    refine hQ τ ⟨by rw [e0]; exact a0, by rw [e1]; exact a1, by omega, by rw [e13]; exact a13, ?_, ?_, fun q q0 q1 => ?_, ?_⟩ k e0
    · unfold MSg; rw [e1, f2, f3, f4, f5]; exact b1
    · unfold MBy; rw [f6]; exact b2
    · rw [f8, f9, f10, f11, f12]
      by_cases e : q = zI σ g 7
      · rw [e, pu_eq, pu_eq, pu_eq, pu_eq, pu_eq]; exact ⟨ht, hs, hp, ha, hw⟩
      · rw [pu_ne e, pu_ne e, pu_ne e, pu_ne e, pu_ne e]; exact b3 q q0 (by omega)
    · unfold MPb; rw [e13, f14, f15, f16]; exact b4
  unfold wpX6_addFixup wpX6_addFixup_72
  refine ⟨hg, by omega, fun _ => hQ σ h kp.rf rfl, fun q => ⟨by omega, ?_⟩⟩
  have kk : kp [g] σ (zsI (zsA (zsA (zsA (zsA (zsA σ g 8 (zI σ g 7) t) g 9 (zI σ g 7) s) g 10 (zI σ g 7) p) g 11 (zI σ g 7) a) g 12 (zI σ g 7) w) g 7 ((zI σ g 7) + 1)) := (((((kp.rf.ta m_1).ta m_1).ta m_1).ta m_1).ta m_1).ti m_1
  have lt : zI σ g 7 < 200 := by omega
  clear hQ b1 b2 b3 b4 h
  obtain rfl | rfl | rfl : g = 0 ∨ g = 1 ∨ g = 2 := by omega
  · exact key _ lt kk rfl rfl rfl rfl rfl rfl rfl rfl rfl ⟨rfl, rfl, rfl, rfl, rfl, rfl, rfl, rfl⟩
  · exact key _ lt kk rfl rfl rfl rfl rfl rfl rfl rfl rfl ⟨rfl, rfl, rfl, rfl, rfl, rfl, rfl, rfl⟩
  · exact key _ lt kk rfl rfl rfl rfl rfl rfl rfl rfl rfl ⟨rfl, rfl, rfl, rfl, rfl, rfl, rfl, rfl⟩
theorem h_putByte {g s o b : Int} {σ : ZS} {Q : ZS → Prop} (hg : 0 ≤ g ∧ g ≤ 2) (h : MO σ g) (hs : 0 ≤ s ∧ s < 24) (ho : 0 ≤ o ∧ o ≤ 21000) (hQ : ∀ τ : ZS, MO τ g → kp [g] σ τ → zI τ g 0 = zI σ g 0 → Q τ) : wpX6_putByte g s o b σ Q := by
  have h' := h
  obtain ⟨a0, a1, a7, a13, b1, b2, b3, b4⟩ := h'
  have fin : ∀ i : Int, Q (zsA σ g 6 i (b % 256)) := by
    intro i
    refine hQ _ ?_ (kp.a m_1) rfl
    refine ⟨a0, a1, a7, a13, ?_, ?_, ?_, ?_⟩
    · unfold MSg; rw [zA_f (by decide), zA_f (by decide), zA_f (by decide), zA_f (by decide)]; exact b1
    · unfold MBy; rw [zA_s]; exact rng_zu b2 (by omega)
    · unfold MFx; rw [zA_f (by decide), zA_f (by decide), zA_f (by decide), zA_f (by decide), zA_f (by decide)]; exact b3
    · unfold MPb; rw [zA_f (by decide), zA_f (by decide), zA_f (by decide)]; exact b4
  unfold wpX6_putByte wpX6_putByte_40
  refine ⟨hg, by omega, by omega, fun _ => hQ σ h kp.rf rfl, fun q => ?_⟩
  have := b1 s hs.1 (by omega)
  exact ⟨by omega, by omega, fun _ => hQ σ h kp.rf rfl, fun _ => ⟨by omega, fin _⟩⟩
theorem h_putWord {g s o b : Int} {σ : ZS} {Q : ZS → Prop} (hg : 0 ≤ g ∧ g ≤ 2) (h : MO σ g) (hs : 0 ≤ s ∧ s < 24) (ho : 0 ≤ o ∧ o ≤ 20500) (hb : -2147483648 ≤ b ∧ b ≤ 2147483647) (hQ : ∀ τ : ZS, MO τ g → kp [g] σ τ → zI τ g 0 = zI σ g 0 → Q τ) : wpX6_putWord g s o b σ Q := by
  unfold wpX6_putWord
  exact ⟨hg, h_putByte hg h hs (by omega) (fun τ m k e => ⟨hb, h_putByte hg m hs (by omega) (fun υ m2 k2 e2 => hQ υ m2 (k.tr k2) (e2.trans e))⟩)⟩
/-- one item of a draft -/
theorem h_writeFixup {g i o t : Int} {σ : ZS} {Q : ZS → Prop} (hg : 0 ≤ g ∧ g ≤ 2) (h : LZ σ) (m : MO σ g) (hi : 0 ≤ i ∧ i < zI σ 13 7) (hn : 0 ≤ zA σ 13 2 i) (hs : 0 ≤ zA σ 13 5 i) (ho : 0 ≤ o ∧ o ≤ 20010) (ht : 0 ≤ t ∧ t ≤ 2) (hQ : ∀ τ : ZS, MO τ g → kp [g] σ τ → zI τ g 0 = zI σ g 0 → Q τ) : wpX2_writeFixup g i o t σ Q := by
  have hz := h.1.sz
  have hN := h.1.2.1.1
  have hf := h.few
  have hd := h.2.1 i hi.1 hi.2
  obtain ⟨i1, i2, i3, i4, i5, i6, i7, i8, i9, i10⟩ := h.1.it hi.1 hi.2
  unfold wpX2_writeFixup
  exact ⟨by omega, by omega, hg, h_addFixup hg m ht (by omega) ho (h.sg hn i3.2) (h.1.1 _ hn (by omega)).1 hQ⟩
theorem h_writeOffset {g i o : Int} {σ : ZS} {Q : ZS → Prop} (hg : 0 ≤ g ∧ g ≤ 2) (h : LZ σ) (m : MO σ g) (hi : 0 ≤ i ∧ i < zI σ 13 7) (hn : 0 ≤ zA σ 13 2 i) (hs : 0 ≤ zA σ 13 5 i) (ho : 0 ≤ o ∧ o ≤ 20010) (hQ : ∀ τ : ZS, MO τ g → kp [g] σ τ → zI τ g 0 = zI σ g 0 → Q τ) : wpX2_writeOffset g i o σ Q := by
  have hz := h.1.sz
  have hN := h.1.2.1.1
  have hf := h.few
  have hd := h.2.1 i hi.1 hi.2
  obtain ⟨i1, i2, i3, i4, i5, i6, i7, i8, i9, i10⟩ := h.1.it hi.1 hi.2
  have hr := h.1.1 _ hn (show zA σ 13 2 i < 240 by omega)
  have f39 : ∀ x : Int, (0 ≤ x ∧ x ≤ 20000) → wpX2_writeOffset_39 g i o x σ Q := by
    intro x hx
    unfold wpX2_writeOffset_39
    refine ⟨by omega, hg, h_putWord hg m (by omega) (by omega) (by omega) (fun τ tm tk te => ?_)⟩
    have e13 := tk 13 (n_1 (by omega))
    exact h_writeFixup hg (h.kg hg tk) tm (by rw [ob_I e13 7]; exact hi) (by rw [ob_A e13 2]; exact hn) (by rw [ob_A e13 5]; exact hs) ho (by decide) (fun υ um uk ue => hQ υ um (tk.tr uk) (ue.trans te))
  unfold wpX2_writeOffset
  exact ⟨by omega, by omega, by omega, fun _ => f39 0 (by decide), fun _ => f39 _ hr.2.2.2.2⟩
theorem h_writeNear {g i : Int} {σ : ZS} {Q : ZS → Prop} (hg : 0 ≤ g ∧ g ≤ 2) (h : LZ σ) (m : MO σ g) (hi : 0 ≤ i ∧ i < zI σ 13 7) (hn : 0 ≤ zA σ 13 2 i) (hs : 0 ≤ zA σ 13 5 i) (hQ : ∀ τ : ZS, MO τ g → kp [g] σ τ → zI τ g 0 = zI σ g 0 → Q τ) : wpX2_writeNear g i σ Q := by
  have hz := h.1.sz
  have hf := h.few
  have hd := h.2.1 i hi.1 hi.2
  have h6 := h.1.2.2.1.1.2.2 i hi.1 hi.2
  unfold wpX2_writeNear wpX2_writeNear_50
  exact ⟨by omega, c_isExtern h.1 hi hn (fun x hx => ⟨by omega, fun _ => c_distance h.1 hi hn (fun y hy => ⟨hg, h_putWord hg m (by omega) (by omega) (by omega) hQ⟩), fun _ => h_writeFixup hg h m hi hn hs (by omega) (by decide) hQ⟩)⟩
theorem h_writeItem {g i : Int} {σ : ZS} {Q : ZS → Prop} (hg : 0 ≤ g ∧ g ≤ 2) (h : LZ σ) (m : MO σ g) (hi : 0 ≤ i ∧ i < zI σ 13 7) (hs : 0 ≤ zA σ 13 5 i) (hQ : ∀ τ : ZS, MO τ g → kp [g] σ τ → zI τ g 0 = zI σ g 0 → Q τ) : wpX2_writeItem g i σ Q := by
  have hz := h.1.sz
  have hf := h.few
  have hd := h.2.1 i hi.1 hi.2
  have h6 := h.1.2.2.1.1.2.2 i hi.1 hi.2
  obtain ⟨i1, i2, i3, i4, i5, i6, i7, i8, i9, i10⟩ := h.1.it hi.1 hi.2
  have nx : zA σ 13 0 i ≠ 4 → zA σ 13 0 i ≠ 5 → zA σ 13 0 i ≠ 6 → ∀ τ : ZS, MO τ g → kp [g] σ τ → (LZ τ ∧ (0 ≤ i ∧ i < zI τ 13 7) ∧ 0 ≤ zA τ 13 2 i ∧ 0 ≤ zA τ 13 5 i) := by
    intro q1 q2 q3 τ tm tk
    have e13 := tk 13 (n_1 (by omega))
    exact ⟨h.kg hg tk, by rw [ob_I e13 7]; exact hi, by rw [ob_A e13 2]; exact i6 q1 q2 q3, by rw [ob_A e13 5]; exact hs⟩
  have fj : zA σ 13 0 i = 9 → wpX2_writeJump g i σ Q := by
    intro e
    unfold wpX2_writeJump wpX2_writeJump_77
    refine ⟨by omega, by omega, fun _ => ⟨hg, h_putByte hg m (by omega) (by omega) (fun τ tm tk te => ?_)⟩, fun _ => ⟨hg, h_putByte hg m (by omega) (by omega) (fun τ tm tk te => ?_)⟩⟩
    · obtain ⟨tz, ti, tn, ts⟩ := nx (by omega) (by omega) (by omega) τ tm tk
      exact c_distance tz.1 ti tn (fun y hy => h_putByte hg tm (by omega) (by omega) (fun υ um uk ue => hQ υ um (tk.tr uk) (ue.trans te)))
    · obtain ⟨tz, ti, tn, ts⟩ := nx (by omega) (by omega) (by omega) τ tm tk
      exact h_writeNear hg tz tm ti tn ts (fun υ um uk ue => hQ υ um (tk.tr uk) (ue.trans te))
  unfold wpX2_writeItem wpX2_writeItem_227
  refine ⟨by omega, by omega, fun _ => ⟨hg, h_putByte hg m (by omega) (by omega) hQ⟩, fun n4 => ⟨fun _ => hQ σ m kp.rf rfl, fun n5 => ⟨fun _ => ⟨hg, h_putWord hg m (by omega) (by omega) (by omega) hQ⟩, fun n6 => ?_⟩⟩⟩
  have hn := i6 n4 n5 n6
  refine ⟨fun _ => h_writeOffset hg h m hi hn hs (by omega) hQ, fun _ => ⟨fun _ => h_writeFixup hg h m hi hn hs (by omega) (by decide) hQ, fun _ => ⟨fun e => fj e, fun _ => ⟨fun e => ⟨hg, h_putByte hg m (by omega) (by omega) (fun τ tm tk te => ?_)⟩, fun _ => ⟨fun e => ⟨hg, h_putByte hg m (by omega) (by omega) (fun τ tm tk te => ?_)⟩, fun _ => ⟨fun e => ⟨hg, h_putByte hg m (by omega) (by omega) (fun τ tm tk te => ?_)⟩, fun _ => hQ σ m kp.rf rfl⟩⟩⟩⟩⟩⟩
  · obtain ⟨tz, ti, tn, ts⟩ := nx n4 n5 n6 τ tm tk
    exact c_distance tz.1 ti tn (fun y hy => h_putByte hg tm (by omega) (by omega) (fun υ um uk ue => hQ υ um (tk.tr uk) (ue.trans te)))
  · obtain ⟨tz, ti, tn, ts⟩ := nx n4 n5 n6 τ tm tk
    exact h_writeNear hg tz tm ti tn ts (fun υ um uk ue => hQ υ um (tk.tr uk) (ue.trans te))
  · obtain ⟨tz, ti, tn, ts⟩ := nx n4 n5 n6 τ tm tk
    refine h_writeOffset hg tz tm ti tn ts (by omega) (fun υ um uk ue => ?_)
    obtain ⟨uz, ui, un, us⟩ := nx n4 n5 n6 υ um (tk.tr uk)
    exact h_writeFixup hg uz um ui un us (by omega) (by decide) (fun ω wm wk we => hQ ω wm ((tk.tr uk).tr wk) (we.trans (ue.trans te)))
theorem h_write {g : Int} {σ : ZS} {Q : ZS → Prop} (hg : 0 ≤ g ∧ g ≤ 2) (h : LZ σ) (h4 : psum (zA σ 15 3) (zI σ 15 4).toNat ≤ 400) (hQ : ∀ τ : ZS, MO τ g → kp [g] σ τ → zI τ g 0 = 1 → Q τ) : wpX2_write g σ Q := by
  have hf := h.few
  obtain ⟨⟨a1, a2, a3, a4, a5, a6, a7, a8, a9⟩, hd, hu, hw⟩ := h
  have h : LZ σ := ⟨⟨a1, a2, a3, a4, a5, a6, a7, a8, a9⟩, hd, hu, hw⟩
  have nn : ∀ j : Int, 0 ≤ j → j < ((zI σ 15 4).toNat : Int) → 0 ≤ zA σ 15 3 j := fun j j0 j1 => (a7 j j0 (by omega)).2.1
  have pm : ∀ n : Int, 0 ≤ n → n ≤ zI σ 15 4 → 0 ≤ psum (zA σ 15 3) n.toNat ∧ psum (zA σ 15 3) n.toNat ≤ 400 := by
    intro n n0 n1
    have q1 := psum_nn (f := zA σ 15 3) n.toNat (fun j j0 j1 => nn j j0 (by omega))
    have q2 := psum_mono (f := zA σ 15 3) (m := n.toNat) (zI σ 15 4).toNat (by omega) nn
    omega
  have ps : ∀ n : Int, 0 ≤ n → psum (zA σ 15 3) (n + 1).toNat = psum (zA σ 15 3) n.toNat + zA σ 15 3 n := by
    intro n n0
    rw [show (n + 1).toNat = n.toNat + 1 by omega]
    show psum (zA σ 15 3) n.toNat + zA σ 15 3 ((n.toNat : Nat) : Int) = _
    rw [show ((n.toNat : Nat) : Int) = n by omega]
  unfold wpX2_write
  refine ⟨hg, c_mclear hg (fun τ0 m0 k0 e0 e1 e7 e13 => ?_)⟩
  have m1 : MO (zsI τ0 g 0 1) g := by
    obtain ⟨b0, b1, b7, b13, b⟩ := m0
    unfold MO MSg MBy MFx MPb
    rw [zI_s, zI_f (by decide), zI_f (by decide), zI_f (by decide)]
    exact ⟨by decide, b1, b7, b13, b⟩
  have k1 : kp [g] σ (zsI τ0 g 0 1) := k0.ti m_1
  have g1 : zI (zsI τ0 g 0 1) g 1 = 0 := (zI_f (by decide)).trans e1
  -- items
  have f62 : ∀ τ : ZS, MO τ g → kp [g] σ τ → zI τ g 0 = 1 → wpX2_write_62 g 0 τ Q := by
    intro τ tm tk t0
    unfold wpX2_write_62
    refine lfp1_ind (fun v _ => (248 - v).toNat) (fun v υ => MO υ g ∧ kp [g] σ υ ∧ (zI υ g 0 = 1) ∧ (0 ≤ v ∧ v ≤ zI σ 13 7)) (fun K v υ hI ih => ?_) ⟨tm, tk, t0, by decide, h.1.sz.1⟩
    obtain ⟨um, uk, u0, v0, v1⟩ := hI
    have uz := h.kg hg uk
    have e13 := uk 13 (n_1 (by omega))
    have s7 := ob_I e13 7
    have hz := uz.1.sz
    have hN := uz.1.2.1.1
    unfold wpbX2_write_62 wpX2_write_148
    refine ⟨by omega, by omega, fun _ => hQ υ um uk u0, fun lt => ?_⟩
    obtain ⟨i1, i2, i3, i4, i5, i6, i7, i8, i9, i10⟩ := uz.1.it v0 (show v < zI υ 13 7 by omega)
    have ud := uz.2.1 v v0 (by omega)
    have us := uz.1.2.2.2.1
    have on : ∀ ω : ZS, MO ω g → kp [g] υ ω → zI ω g 0 = zI υ g 0 → K (v + 1) ω := fun ω wm wk w0 => ih _ _ ⟨wm, uk.tr wk, w0.trans u0, by omega, by omega⟩ (by omega)
    refine ⟨by omega, by omega, fun _ => ⟨by omega, fun _ => on υ um kp.rf rfl, fun nn => h_writeItem hg uz um ⟨v0, by omega⟩ (by omega) (fun ω wm wk w0 => on ω wm wk w0)⟩, fun e2 => ?_⟩
    have hn := i6 (by omega) (by omega) (by omega)
    have r2 := uz.2.2.1 v v0 (by omega) e2
    have sg := (uz.1.2.2.2.2.2.2.2.1 _ hn i3.2).2.2.1 r2
    have fw := uz.few
    have hr := uz.1.1 _ hn (show zA υ 13 2 v < 240 by omega)
    have ww := uz.2.2.2
    exact ⟨by omega, hg, h_addPublic hg um hr.1 ⟨sg.2.2 ww, by omega⟩ hr.2.2.2.2 (fun ω wm wk w0 => on ω wm wk w0)⟩
  unfold wpX2_write_11
  refine lfp1_ind (fun v _ => (60 - v).toNat) (fun v υ => MO υ g ∧ kp [g] σ υ ∧ zI υ g 0 = 1 ∧ zI υ g 1 = v ∧ (0 < v → zA υ g 5 (v - 1) + zA υ g 4 (v - 1) = psum (zA σ 15 3) v.toNat) ∧ (0 ≤ v ∧ v ≤ zI σ 15 4)) (fun K v υ hI ih => ?_) ⟨m1, k1, zI_s, g1, fun q => absurd q (by decide), by decide, a4.1⟩
  obtain ⟨um, uk, u0, uc, us, v0, v1⟩ := hI
  have e15 := uk 15 (n_1 (by omega))
  have e11 := uk 11 (n_1 (by omega))
  have s4 := ob_I e15 4
  unfold wpbX2_write_11
  refine ⟨by omega, by omega, fun _ => f62 υ um uk u0, fun lt => ?_⟩
  rw [ob_A e15 2, ob_A e15 3, ob_A e11 0, ob_A e11 3]
  obtain ⟨z1, z2, z3⟩ := a9 v v0 (by omega)
  have hN := a2.1
  have hr := a1 _ z1.1 (show zA σ 15 2 v < 240 by omega)
  have al1 := ((a8 _ z1.1 z1.2).2.1 z2).2.2
  have p1 := pm v v0 (by omega)
  have p2 := pm (v + 1) (by omega) (by omega)
  have p3 := ps v v0
  refine ⟨by omega, by omega, hg, h_addSegment (st := psum (zA σ 15 3) v.toNat) hg um (by omega) hr.1 al1 (a7 v v0 (by omega)).2.1 (fun q => ?_) (fun q => ?_) (by omega) (fun ω wm wk w1 w2 w0 => ih _ _ ⟨wm, uk.tr wk, w0.trans u0, by omega, fun _ => ?_, by omega, by omega⟩ (by omega))⟩
  · rw [show v = 0 by omega]; rfl
  · rw [uc]; exact us (by omega)
  · rw [uc] at w2
    rw [show v + 1 - 1 = v by omega, p3]; exact w2
