/-! P: a module is written, whole -/
theorem OU.u43 {m v : Int} {σ τ : ZS} (h : OU m σ τ) : OU m σ (zsA τ 0 43 m v) := h.tr ⟨fun _ hj => ⟨pu_ne hj, rfl, rfl, rfl⟩, fun _ _ => ⟨rfl, rfl, rfl⟩, fun _ _ => ⟨rfl, rfl, rfl, rfl⟩, fun _ _ => ⟨rfl, rfl⟩⟩
theorem OU.u44 {m v : Int} {σ τ : ZS} (h : OU m σ τ) : OU m σ (zsA τ 0 44 m v) := h.tr ⟨fun _ hj => ⟨rfl, pu_ne hj, rfl, rfl⟩, fun _ _ => ⟨rfl, rfl, rfl⟩, fun _ _ => ⟨rfl, rfl, rfl, rfl⟩, fun _ _ => ⟨rfl, rfl⟩⟩
theorem OU.u50 {m v : Int} {σ τ : ZS} (h : OU m σ τ) : OU m σ (zsA τ 0 50 m v) := h.tr ⟨fun _ hj => ⟨rfl, rfl, pu_ne hj, rfl⟩, fun _ _ => ⟨rfl, rfl, rfl⟩, fun _ _ => ⟨rfl, rfl, rfl, rfl⟩, fun _ _ => ⟨rfl, rfl⟩⟩
theorem OU.u56 {m v : Int} {σ τ : ZS} (h : OU m σ τ) : OU m σ (zsA τ 0 56 m v) := h.tr ⟨fun _ hj => ⟨rfl, rfl, rfl, pu_ne hj⟩, fun _ _ => ⟨rfl, rfl, rfl⟩, fun _ _ => ⟨rfl, rfl, rfl, rfl⟩, fun _ _ => ⟨rfl, rfl⟩⟩
theorem OU.u45 {m i v : Int} {σ τ : ZS} (h : OU m σ τ) : OU m σ (zsA τ 0 45 i v) := h
theorem OU.u49 {m i v : Int} {σ τ : ZS} (h : OU m σ τ) : OU m σ (zsA τ 0 49 i v) := h
theorem OU.u57 {m i v : Int} {σ τ : ZS} (h : OU m σ τ) : OU m σ (zsA τ 0 57 i v) := h
theorem OU.u46 {m i v : Int} {σ τ : ZS} (h : OU m σ τ) (hi : 24 * m ≤ i ∧ i < 24 * m + 24) : OU m σ (zsA τ 0 46 i v) := h.tr ⟨fun _ _ => ⟨rfl, rfl, rfl, rfl⟩, fun _ hj => ⟨pu_ne (by omega), rfl, rfl⟩, fun _ _ => ⟨rfl, rfl, rfl, rfl⟩, fun _ _ => ⟨rfl, rfl⟩⟩
theorem OU.u47 {m i v : Int} {σ τ : ZS} (h : OU m σ τ) (hi : 24 * m ≤ i ∧ i < 24 * m + 24) : OU m σ (zsA τ 0 47 i v) := h.tr ⟨fun _ _ => ⟨rfl, rfl, rfl, rfl⟩, fun _ hj => ⟨rfl, pu_ne (by omega), rfl⟩, fun _ _ => ⟨rfl, rfl, rfl, rfl⟩, fun _ _ => ⟨rfl, rfl⟩⟩
theorem OU.u48 {m i v : Int} {σ τ : ZS} (h : OU m σ τ) (hi : 24 * m ≤ i ∧ i < 24 * m + 24) : OU m σ (zsA τ 0 48 i v) := h.tr ⟨fun _ _ => ⟨rfl, rfl, rfl, rfl⟩, fun _ hj => ⟨rfl, rfl, pu_ne (by omega)⟩, fun _ _ => ⟨rfl, rfl, rfl, rfl⟩, fun _ _ => ⟨rfl, rfl⟩⟩
theorem OU.u58 {m i v : Int} {σ τ : ZS} (h : OU m σ τ) (hi : 80 * m ≤ i ∧ i < 80 * m + 80) : OU m σ (zsA τ 0 58 i v) := h.tr ⟨fun _ _ => ⟨rfl, rfl, rfl, rfl⟩, fun _ _ => ⟨rfl, rfl, rfl⟩, fun _ _ => ⟨rfl, rfl, rfl, rfl⟩, fun _ hj => ⟨pu_ne (by omega), rfl⟩⟩
theorem OU.u59 {m i v : Int} {σ τ : ZS} (h : OU m σ τ) (hi : 80 * m ≤ i ∧ i < 80 * m + 80) : OU m σ (zsA τ 0 59 i v) := h.tr ⟨fun _ _ => ⟨rfl, rfl, rfl, rfl⟩, fun _ _ => ⟨rfl, rfl, rfl⟩, fun _ _ => ⟨rfl, rfl, rfl, rfl⟩, fun _ hj => ⟨rfl, pu_ne (by omega)⟩⟩
theorem rng_zu {h : Int → Int} {i v n lo hi : Int} (hh : ∀ j : Int, 0 ≤ j → j < n → lo ≤ h j ∧ h j ≤ hi) (hv : lo ≤ v ∧ v ≤ hi) : ∀ j : Int, 0 ≤ j → j < n → lo ≤ zu h i v j ∧ zu h i v j ≤ hi := by
  intro j j0 j1
  by_cases e : j = i
  · rw [e, pu_eq]; exact hv
  · rw [pu_ne e]; exact hh j j0 j1
theorem GM.u43 {σ : ZS} {i v : Int} (h : GM σ) (hv : 0 ≤ v ∧ v ≤ 1) : GM (zsA σ 0 43 i v) := ⟨h.1, h.2.1, h.2.2.1, h.2.2.2.1, rng_zu h.2.2.2.2 hv⟩
theorem GM.u45 {σ : ZS} {i v : Int} (h : GM σ) (hv : 0 ≤ v ∧ v ≤ 72057594037927936) : GM (zsA σ 0 45 i v) := ⟨rng_zu h.1 hv, h.2⟩
theorem GM.u49 {σ : ZS} {i v : Int} (h : GM σ) (hv : 0 ≤ v ∧ v ≤ 255) : GM (zsA σ 0 49 i v) := ⟨h.1, h.2.1, h.2.2.1, rng_zu h.2.2.2.1 hv, h.2.2.2.2⟩
theorem GM.u57 {σ : ZS} {i v : Int} (h : GM σ) (hv : 0 ≤ v ∧ v ≤ 72057594037927936) : GM (zsA σ 0 57 i v) := ⟨h.1, h.2.1, rng_zu h.2.2.1 hv, h.2.2.2⟩
theorem cntP_mono {h : Int → Int} {m : Nat} : ∀ n : Nat, m ≤ n → cntP h m ≤ cntP h n
  | 0, q => by rw [show m = 0 by omega]; exact Int.le_refl _
  | n + 1, q => by
    by_cases e : m = n + 1
    · rw [e]; exact Int.le_refl _
    · have := cntP_mono (h := h) (m := m) n (by omega)
      show cntP h m ≤ cntP h n + (if h n = 0 then 1 else 0)
      split <;> omega
def WI (β : ZS) (m : Int) (τ : ZS) : Prop := fr [] WA β τ ∧ OU m β τ ∧ GM τ ∧ zA τ 0 44 m = zI β 0 34
def MS (β : ZS) (m : Int) (τ : ZS) (n : Int) : Prop := ∀ s : Int, 0 ≤ s → s < n → zA τ 0 47 (24 * m + s) = psum (zA β 0 36) s.toNat ∧ zA τ 0 48 (24 * m + s) = zA β 0 36 s ∧ 1 ≤ zA τ 0 46 (24 * m + s) ∧ zA τ 0 46 (24 * m + s) ≤ 16
def PB (β : ZS) (m : Int) (τ : ZS) : Prop := ∀ k : Int, 0 ≤ k → k < zA τ 0 56 m → (0 ≤ zA τ 0 58 (80 * m + k) ∧ zA τ 0 58 (80 * m + k) < zI β 0 34) ∧ (0 ≤ zA τ 0 59 (80 * m + k) ∧ zA τ 0 59 (80 * m + k) ≤ 62000)
theorem s_write {β : ZS} {m : Int} {Q : ZS → Prop} (hW : WC β) (hM : GM β) (hm : 0 ≤ m ∧ m ≤ 2) (hQ : ∀ τ : ZS, fr [] WA β τ → OU m β τ → GM τ → MI τ m → Q τ) : wpX11_write m β Q := by
  have hWC := hW
  obtain ⟨w1, w2, w3, wO, wL, wS, w24, wal, wsum, wne, wab, wpb, wus, wcn⟩ := hW
  obtain ⟨s31, s34, sg⟩ := wS
  have hnn : ∀ j : Int, 0 ≤ j → j < ((zI β 0 34).toNat : Int) → 0 ≤ zA β 0 36 j := fun j a b => (wL.1 j a (by omega)).1
  have hps : ∀ s : Int, 0 ≤ s → psum (zA β 0 36) (s + 1).toNat = psum (zA β 0 36) s.toNat + zA β 0 36 s := by
    intro s s0
    rw [show (s + 1).toNat = s.toNat + 1 by omega]
    show psum (zA β 0 36) s.toNat + zA β 0 36 ((s.toNat : Nat) : Int) = _
    rw [show ((s.toNat : Nat) : Int) = s by omega]
  have hpm : ∀ s : Int, 0 ≤ s → s ≤ zI β 0 34 → 0 ≤ psum (zA β 0 36) s.toNat ∧ psum (zA β 0 36) s.toNat ≤ 400 := by
    intro s s0 s1
    have := psum_mono (f := zA β 0 36) (m := s.toNat) (zI β 0 34).toNat (by omega) hnn
    exact ⟨psum_nn _ (fun j a b => hnn j a (by omega)), by omega⟩
  -- the publics
  have f183 : ∀ τ : ZS, WI β m τ → MS β m τ (zI β 0 34) → FX β m τ → (0 ≤ zA τ 0 50 m ∧ zA τ 0 50 m ≤ 200) → zA τ 0 56 m = 0 → wpX11_write_183 m 0 τ Q := by
    intro τ0 h0 hS0 hX0 hc0 he0
    unfold wpX11_write_183
    refine lfp1_ind (fun v _ => (zI β 0 23 - v).toNat) (fun v τ => WI β m τ ∧ MS β m τ (zI β 0 34) ∧ FX β m τ ∧ (0 ≤ zA τ 0 50 m ∧ zA τ 0 50 m ≤ 200) ∧ (0 ≤ v ∧ v ≤ zI β 0 23) ∧ zA τ 0 56 m = cntP (zA β 0 19) v.toNat ∧ PB β m τ) ?_ ⟨h0, hS0, hX0, hc0, by omega, he0, fun k k0 k1 => absurd k1 (by rw [he0]; omega)⟩
    intro P v τ ⟨hI, hS, hX, hc, hv, h56, hP⟩ ih
    obtain ⟨hf, hO, hG, h44⟩ := hI
    have b := hf.2
    have i23 : zI τ 0 23 = zI β 0 23 := hf.1 23 (by decide)
    have hcl := cntP_le (h := zA β 0 19) v.toNat
    show wpbX11_write_183 P m v τ Q
    unfold wpbX11_write_183 wpX11_write_280
    rw [i23, b 19 (by decide), b 20 (by decide), b 12 (by decide), b 14 (by decide), b 16 (by decide)]
    refine ⟨by omega, by omega, fun e => ?_, fun ne => ?_⟩
    · have hev : v = zI β 0 23 := by omega
      rw [hev] at h56 hcl
      refine hQ τ hf hO hG ⟨⟨by omega, hc, by omega⟩, fun s s0 s1 => ?_, fun k k0 k1 => ?_, fun k k0 k1 => ?_⟩
      · rw [h44] at s1
        obtain ⟨x1, x2, x3, x4⟩ := hS s s0 s1
        rw [x1, x2]
        have h1 := hpm s s0 (by omega)
        have h2 := hpm (s + 1) (by omega) (by omega)
        have h3 := hps s s0
        have h4 := wL.1 s s0 s1
        exact ⟨h1.1, h4.1, by omega, x3, x4⟩
      · obtain ⟨y1, y2, y3, y4, y5⟩ := hX k k0 k1
        rw [h44]
        refine ⟨y1, y2, y3, ?_, y5⟩
        rw [(hS _ y2.1 y2.2).2.1]; exact y4
      · rw [h44]; exact hP k k0 k1
    · have hu := w2 v hv.1 (by omega)
      have hcv : cntP (zA β 0 19) (v + 1).toNat = cntP (zA β 0 19) v.toNat + (if zA β 0 19 v = 0 then 1 else 0) := by
        rw [show (v + 1).toNat = v.toNat + 1 by omega]
        show cntP (zA β 0 19) v.toNat + (if zA β 0 19 ((v.toNat : Nat) : Int) = 0 then 1 else 0) = _
        rw [show ((v.toNat : Nat) : Int) = v by omega]
      have hcm := cntP_mono (h := zA β 0 19) (m := (v + 1).toNat) (zI β 0 23).toNat (by omega)
      refine ⟨by omega, by omega, fun z => ?_, fun nz => ?_⟩
      · rw [if_pos z] at hcv
        have hn := hu.2.1
        have ha := wus.1
        have hk : 0 ≤ zA τ 0 56 m ∧ zA τ 0 56 m ≤ 79 := by omega
        have hn14 := wpb v hv.1 (by omega) z
        have hn16 := wO _ hn.1 hn.2
        refine ⟨by omega, hn, by omega, ih _ _ ⟨⟨((((hf.ta (by decide)).ta (by decide)).ta (by decide)).ta (by decide)), (((hO.u57.u58 (by omega)).u59 (by omega)).u56), hG.u57 (w1 _ hn.1 hn.2).2.2.2, h44⟩, hS, hX, hc, by omega, ?_, ?_⟩ (by show (zI β 0 23 - (v + 1)).toNat < (zI β 0 23 - v).toNat; omega)⟩
        · show zu (zA τ 0 56) m (zA τ 0 56 m + 1) m = _
          rw [pu_eq, h56, hcv]
        · intro k k0 k1
          have k1' : k < zA τ 0 56 m + 1 := by
            have e : zA (zsA (zsA (zsA (zsA τ 0 57 (80 * m + zA τ 0 56 m) (zA β 0 12 (zA β 0 20 v))) 0 58 (80 * m + zA τ 0 56 m) (zA β 0 14 (zA β 0 20 v))) 0 59 (80 * m + zA τ 0 56 m) (zA β 0 16 (zA β 0 20 v))) 0 56 m (zA τ 0 56 m + 1)) 0 56 m = zA τ 0 56 m + 1 := pu_eq (h := zA τ 0 56)
            rw [e] at k1; exact k1
          show (0 ≤ zu (zA τ 0 58) (80 * m + zA τ 0 56 m) (zA β 0 14 (zA β 0 20 v)) (80 * m + k) ∧ zu (zA τ 0 58) (80 * m + zA τ 0 56 m) (zA β 0 14 (zA β 0 20 v)) (80 * m + k) < zI β 0 34) ∧ (0 ≤ zu (zA τ 0 59) (80 * m + zA τ 0 56 m) (zA β 0 16 (zA β 0 20 v)) (80 * m + k) ∧ zu (zA τ 0 59) (80 * m + zA τ 0 56 m) (zA β 0 16 (zA β 0 20 v)) (80 * m + k) ≤ 62000)
          by_cases e : k = zA τ 0 56 m
          · rw [e, pu_eq, pu_eq]; exact ⟨hn14, hn16⟩
          · have hne : 80 * m + k ≠ 80 * m + zA τ 0 56 m := by omega
            rw [pu_ne hne, pu_ne hne]
            exact hP k k0 (by omega)
      · rw [if_neg nz] at hcv
        exact ih _ _ ⟨⟨hf, hO, hG, h44⟩, hS, hX, hc, by omega, by omega, hP⟩ (by show (zI β 0 23 - (v + 1)).toNat < (zI β 0 23 - v).toNat; omega)
  -- the pieces
  have f161 : ∀ τ : ZS, WI β m τ → MS β m τ (zI β 0 34) → zA τ 0 50 m = 0 → zA τ 0 56 m = 0 → wpX11_write_161 m 0 τ Q := by
    intro τ0 h0 hS0 hc0 he0
    unfold wpX11_write_161
    refine lfp1_ind (fun v _ => (zI β 0 31 - v).toNat) (fun v τ => WI β m τ ∧ MS β m τ (zI β 0 34) ∧ FX β m τ ∧ (0 ≤ zA τ 0 50 m ∧ 2 * zA τ 0 50 m ≤ psum (szp β) v.toNat) ∧ (0 ≤ v ∧ v ≤ zI β 0 31) ∧ zA τ 0 56 m = 0) ?_ ⟨h0, hS0, fun k k0 k1 => absurd k1 (by rw [hc0]; omega), by rw [hc0]; exact ⟨Int.le_refl _, Int.le_refl _⟩, by omega, he0⟩
    intro P v τ ⟨hI, hS, hX, hc, hv, h56⟩ ih
    obtain ⟨hf, hO, hG, h44⟩ := hI
    have i31 : zI τ 0 31 = zI β 0 31 := hf.1 31 (by decide)
    show wpbX11_write_161 P m v τ Q
    unfold wpbX11_write_161
    rw [i31]
    refine ⟨by omega, by omega, fun e => ?_, fun ne => ?_⟩
    · have hev : v = zI β 0 31 := by omega
      have h3 := wL.2.2
      rw [hev] at hc
      exact f183 τ ⟨hf, hO, hG, h44⟩ hS hX (by omega) h56
    · refine s_put hWC hm ⟨hv.1, by omega⟩ hf (fun s s0 s1 => ⟨(hS s s0 s1).1, (hS s s0 s1).2.1⟩) hG hX hc (fun υ hfu hOu hGu hXu hcu => ?_)
      have e46 : zA υ 0 46 = zA τ 0 46 := hfu.2 46 (by decide)
      have e47 : zA υ 0 47 = zA τ 0 47 := hfu.2 47 (by decide)
      have e48 : zA υ 0 48 = zA τ 0 48 := hfu.2 48 (by decide)
      have e44 : zA υ 0 44 = zA τ 0 44 := hfu.2 44 (by decide)
      have e56 : zA υ 0 56 = zA τ 0 56 := hfu.2 56 (by decide)
      refine ih _ _ ⟨⟨hf.tr (hfu.up (by decide) (by decide)), hO.tr hOu, hGu, by rw [e44]; exact h44⟩, ?_, hXu, hcu, by omega, by rw [e56]; exact h56⟩ (by show (zI β 0 31 - (v + 1)).toNat < (zI β 0 31 - v).toNat; omega)
      intro s s0 s1
      rw [e46, e47, e48]; exact hS s s0 s1
  -- the bytes are cleared
  have f133 : ∀ τ : ZS, WI β m τ → MS β m τ (zI β 0 34) → zA τ 0 50 m = 0 → zA τ 0 56 m = 0 → wpX11_write_133 m 0 τ Q := by
    intro τ0 h0 hS0 hc0 he0
    unfold wpX11_write_133
    refine lfp1_ind (fun v _ => (400 - v).toNat) (fun v τ => WI β m τ ∧ MS β m τ (zI β 0 34) ∧ zA τ 0 50 m = 0 ∧ (0 ≤ v ∧ v ≤ 400) ∧ zA τ 0 56 m = 0) ?_ ⟨h0, hS0, hc0, by omega, he0⟩
    intro P v τ ⟨hI, hS, hc, hv, h56⟩ ih
    show wpbX11_write_133 P m v τ Q
    unfold wpbX11_write_133
    refine ⟨by omega, fun e => f161 τ hI hS hc h56, fun ne => ⟨by omega, ih _ _ ⟨⟨hI.1.ta (by decide), hI.2.1.u49, hI.2.2.1.u49 (by decide), hI.2.2.2⟩, hS, hc, by omega, h56⟩ (by show (400 - (v + 1)).toNat < (400 - v).toNat; omega)⟩⟩
  unfold wpX11_write wpX11_write_35
  refine ⟨by omega, ?_⟩
  refine lfp2_ind (fun _ v _ => (zI β 0 34 - v).toNat) (fun a v τ => WI β m τ ∧ MS β m τ v ∧ zA τ 0 50 m = 0 ∧ (0 ≤ v ∧ v ≤ zI β 0 34) ∧ zA τ 0 56 m = 0 ∧ a = psum (zA β 0 36) v.toNat) ?_ ⟨⟨((((fr.rf.ta (by decide)).ta (by decide)).ta (by decide)).ta (by decide)), (OU.rf.u43.u44.u50.u56), hM.u43 (by decide), pu_eq (h := zA β 0 44)⟩, fun s s0 s1 => absurd s1 (by omega), pu_eq (h := zA β 0 50), by omega, pu_eq (h := zA β 0 56), rfl⟩
  intro P a v τ ⟨hI, hS, hc, hv, h56, ha⟩ ih
  obtain ⟨hf, hO, hG, h44⟩ := hI
  have b := hf.2
  have i34 : zI τ 0 34 = zI β 0 34 := hf.1 34 (by decide)
  show wpbX11_write_35 P m a v τ Q
  unfold wpbX11_write_35
  rw [i34, b 35 (by decide), b 12 (by decide), b 15 (by decide), b 36 (by decide)]
  refine ⟨by omega, by omega, fun e => ?_, fun ne => ?_⟩
  · have hev : v = zI β 0 34 := by omega
    exact f133 τ ⟨hf, hO, hG, h44⟩ (hev ▸ hS) hc h56
  · have hn := (wal v hv.1 (by omega)).1
    have hal := (wal v hv.1 (by omega)).2
    have hg := w1 _ hn.1 hn.2
    refine ⟨by omega, hn, by omega, ih _ _ _ ⟨⟨((((hf.ta (by decide)).ta (by decide)).ta (by decide)).ta (by decide)), (((hO.u45.u46 (by omega)).u47 (by omega)).u48 (by omega)), hG.u45 hg.2.2.2, h44⟩, ?_, hc, by omega, h56, ?_⟩ (by show (zI β 0 34 - (v + 1)).toNat < (zI β 0 34 - v).toNat; omega)⟩
    · intro s s0 s1
      show zu (zA τ 0 47) (24 * m + v) a (24 * m + s) = _ ∧ zu (zA τ 0 48) (24 * m + v) (zA β 0 36 v) (24 * m + s) = _ ∧ 1 ≤ zu (zA τ 0 46) (24 * m + v) (zA β 0 15 (zA β 0 35 v)) (24 * m + s) ∧ zu (zA τ 0 46) (24 * m + v) (zA β 0 15 (zA β 0 35 v)) (24 * m + s) ≤ 16
      by_cases e : s = v
      · rw [e, pu_eq, pu_eq, pu_eq]; exact ⟨ha, rfl, hal, hg.2.2.1.2⟩
      · have hne : 24 * m + s ≠ 24 * m + v := by omega
        rw [pu_ne hne, pu_ne hne, pu_ne hne]
        exact hS s s0 (by omega)
    · rw [ha, hps v hv.1]
