/-! Y: the reference writes a module, exactly -/
def OY (m : Int) (σ τ : ZS) : Prop := OU m σ τ ∧ OV m σ τ
theorem OY.rf {m : Int} {σ : ZS} : OY m σ σ := ⟨OU.rf, OV.rf⟩
theorem OY.tr {m : Int} {σ τ υ : ZS} (h : OY m σ τ) (k : OY m τ υ) : OY m σ υ := ⟨h.1.tr k.1, h.2.tr k.2⟩
theorem OY.u44 {m v : Int} {σ τ : ZS} (h : OY m σ τ) : OY m σ (zsA τ 0 44 m v) := ⟨h.1.u44, h.2⟩
theorem OY.u50 {m v : Int} {σ τ : ZS} (h : OY m σ τ) : OY m σ (zsA τ 0 50 m v) := ⟨h.1.u50, h.2⟩
theorem OY.u56 {m v : Int} {σ τ : ZS} (h : OY m σ τ) : OY m σ (zsA τ 0 56 m v) := ⟨h.1.u56, h.2⟩
theorem OY.u45 {m i v : Int} {σ τ : ZS} (h : OY m σ τ) (hi : 24 * m ≤ i ∧ i < 24 * m + 24) : OY m σ (zsA τ 0 45 i v) := ⟨h.1.u45, fun j hj => (pu_ne (by omega)).trans (h.2.1 j hj), h.2.2⟩
theorem OY.u46 {m i v : Int} {σ τ : ZS} (h : OY m σ τ) (hi : 24 * m ≤ i ∧ i < 24 * m + 24) : OY m σ (zsA τ 0 46 i v) := ⟨h.1.u46 hi, h.2⟩
theorem OY.u47 {m i v : Int} {σ τ : ZS} (h : OY m σ τ) (hi : 24 * m ≤ i ∧ i < 24 * m + 24) : OY m σ (zsA τ 0 47 i v) := ⟨h.1.u47 hi, h.2⟩
theorem OY.u48 {m i v : Int} {σ τ : ZS} (h : OY m σ τ) (hi : 24 * m ≤ i ∧ i < 24 * m + 24) : OY m σ (zsA τ 0 48 i v) := ⟨h.1.u48 hi, h.2⟩
theorem OY.u49 {m i v : Int} {σ τ : ZS} (h : OY m σ τ) (hi : 400 * m ≤ i ∧ i < 400 * m + 400) : OY m σ (zsA τ 0 49 i v) := ⟨h.1.u49, h.2.1, fun j hj => (pu_ne (by omega)).trans (h.2.2.1 j hj), h.2.2.2⟩
theorem OY.u57 {m i v : Int} {σ τ : ZS} (h : OY m σ τ) (hi : 80 * m ≤ i ∧ i < 80 * m + 80) : OY m σ (zsA τ 0 57 i v) := ⟨h.1.u57, h.2.1, h.2.2.1, h.2.2.2.1, fun j hj => (pu_ne (by omega)).trans (h.2.2.2.2 j hj)⟩
theorem OY.u58 {m i v : Int} {σ τ : ZS} (h : OY m σ τ) (hi : 80 * m ≤ i ∧ i < 80 * m + 80) : OY m σ (zsA τ 0 58 i v) := ⟨h.1.u58 hi, h.2⟩
theorem OY.u59 {m i v : Int} {σ τ : ZS} (h : OY m σ τ) (hi : 80 * m ≤ i ∧ i < 80 * m + 80) : OY m σ (zsA τ 0 59 i v) := ⟨h.1.u59 hi, h.2⟩
def WIy (β : ZS) (m : Int) (τ : ZS) : Prop := fr [] WB β τ ∧ OY m β τ ∧ GM τ ∧ zA τ 0 44 m = zI β 0 34
/-- segments -/
def RG (β : ZS) (m : Int) (τ : ZS) (n : Int) : Prop := ∀ s : Int, 0 ≤ s → s < n → zA τ 0 47 (24 * m + s) = psum (zA β 0 36) s.toNat ∧ zA τ 0 48 (24 * m + s) = zA β 0 36 s ∧ zA τ 0 46 (24 * m + s) = zA β 0 15 (zA β 0 35 s) ∧ zA τ 0 45 (24 * m + s) = zA β 0 12 (zA β 0 35 s)
/-- pieces put so far -/
def qK (β : ZS) : Nat → MD
  | 0 => mD0
  | k + 1 => qI β (qK β k) k
theorem qK_s {β : ZS} {v : Int} (h : 0 ≤ v) : qK β (v + 1).toNat = qI β (qK β v.toNat) v := by
  rw [show (v + 1).toNat = v.toNat + 1 by omega]
  show qI β (qK β v.toNat) (v.toNat : Int) = _
  rw [show ((v.toNat : Nat) : Int) = v by omega]
/-- publics -/
def PY (β : ZS) (m : Int) (τ : ZS) (v : Int) : Prop := (∀ k : Int, 0 ≤ k → k < zA τ 0 56 m → ∃ u : Int, (0 ≤ u ∧ u < v) ∧ zA β 0 19 u = 0 ∧ zA τ 0 57 (80 * m + k) = zA β 0 12 (zA β 0 20 u) ∧ zA τ 0 58 (80 * m + k) = zA β 0 14 (zA β 0 20 u) ∧ zA τ 0 59 (80 * m + k) = zA β 0 16 (zA β 0 20 u)) ∧ (∀ u : Int, 0 ≤ u → u < v → zA β 0 19 u = 0 → ∃ k : Int, (0 ≤ k ∧ k < zA τ 0 56 m) ∧ zA τ 0 57 (80 * m + k) = zA β 0 12 (zA β 0 20 u) ∧ zA τ 0 58 (80 * m + k) = zA β 0 14 (zA β 0 20 u) ∧ zA τ 0 59 (80 * m + k) = zA β 0 16 (zA β 0 20 u))
theorem y_write_b {β : ZS} {m : Int} {Q : ZS → Prop} (hW : WC β) (hM : GM β) (hm : 0 ≤ m ∧ m ≤ 2) (hQ : ∀ τ : ZS, fr [] WB β τ → OY m β τ → GM τ → MI τ m → zA τ 0 44 m = zI β 0 34 → RG β m τ (zI β 0 34) → MQr β m τ (qK β (zI β 0 31).toNat) → PY β m τ (zI β 0 23) → Q τ) : wpX11_write_35 m 0 0 (zsA (zsA (zsA β 0 44 m (zI β 0 34)) 0 50 m 0) 0 56 m 0) Q := by
  have hWC := hW
  obtain ⟨w1, w2, w3, wO, wL, wS, w24, wal, wsum, wne, wab, wpb, wus, wcn⟩ := hW
  obtain ⟨s31, s34, sg⟩ := wS
  have hnn : ∀ j : Int, 0 ≤ j → j < ((zI β 0 34).toNat : Int) → 0 ≤ zA β 0 36 j := fun j a b => (wL.1 j a (by omega)).1
  have hps : ∀ s : Int, 0 ≤ s → psum (zA β 0 36) (s + 1).toNat = psum (zA β 0 36) s.toNat + zA β 0 36 s := by
    intro s s0
    rw [show (s + 1).toNat = s.toNat + 1 by omega]
    show psum (zA β 0 36) s.toNat + zA β 0 36 ((s.toNat : Nat) : Int) = _
    rw [show ((s.toNat : Nat) : Int) = s by omega]
  have hpm : ∀ s : Int, 0 ≤ s → s ≤ zI β 0 34 → 0 ≤ psum (zA β 0 36) s.toNat ∧ psum (zA β 0 36) s.toNat ≤ 400 := by
    intro s s0 s1
    have := psum_mono (f := zA β 0 36) (m := s.toNat) (zI β 0 34).toNat (by omega) hnn
    exact ⟨psum_nn _ (fun j a b => hnn j a (by omega)), by omega⟩
  -- the publics
  have f183 : ∀ τ : ZS, WIy β m τ → RG β m τ (zI β 0 34) → FX β m τ → (0 ≤ zA τ 0 50 m ∧ zA τ 0 50 m ≤ 200) → zA τ 0 56 m = 0 → MQr β m τ (qK β (zI β 0 31).toNat) → wpX11_write_183 m 0 τ Q := by
    intro τ0 h0 hS0 hX0 hc0 he0 hq0
    unfold wpX11_write_183
    refine lfp1_ind (fun v _ => (zI β 0 23 - v).toNat) (fun v τ => WIy β m τ ∧ RG β m τ (zI β 0 34) ∧ FX β m τ ∧ (0 ≤ zA τ 0 50 m ∧ zA τ 0 50 m ≤ 200) ∧ (0 ≤ v ∧ v ≤ zI β 0 23) ∧ zA τ 0 56 m = cntP (zA β 0 19) v.toNat ∧ PB β m τ ∧ MQr β m τ (qK β (zI β 0 31).toNat) ∧ PY β m τ v) ?_ ⟨h0, hS0, hX0, hc0, by omega, he0, fun k k0 k1 => absurd k1 (by rw [he0]; omega), hq0, fun k k0 k1 => absurd k1 (by rw [he0]; omega), fun u u0 u1 => absurd u1 (by omega)⟩
    intro P v τ ⟨hI, hS, hX, hc, hv, h56, hP, hq, hy⟩ ih
    obtain ⟨hf, hO, hG, h44⟩ := hI
    have b := hf.2
    have i23 : zI τ 0 23 = zI β 0 23 := hf.1 23 (by decide)
    have hcl := cntP_le (h := zA β 0 19) v.toNat
    show wpbX11_write_183 P m v τ Q
    unfold wpbX11_write_183 wpX11_write_280
    rw [i23, b 19 (by decide), b 20 (by decide), b 12 (by decide), b 14 (by decide), b 16 (by decide)]
    refine ⟨by omega, by omega, fun e => ?_, fun ne => ?_⟩
    · have hev : v = zI β 0 23 := by omega
      rw [hev] at h56 hcl hy
      refine hQ τ hf hO hG ⟨⟨by omega, hc, by omega⟩, fun s s0 s1 => ?_, fun k k0 k1 => ?_, fun k k0 k1 => ?_⟩ h44 hS hq hy
      · rw [h44] at s1
        obtain ⟨x1, x2, x3, x4⟩ := hS s s0 s1
        rw [x1, x2, x3]
        have h1 := hpm s s0 (by omega)
        have h2 := hpm (s + 1) (by omega) (by omega)
        have h3 := hps s s0
        have h4 := wL.1 s s0 s1
        have h5 := wal s s0 s1
        exact ⟨h1.1, h4.1, by omega, h5.2, (w1 _ h5.1.1 h5.1.2).2.2.1.2⟩
      · obtain ⟨y1, y2, y3, y4, y5⟩ := hX k k0 k1
        rw [h44]
        refine ⟨y1, y2, y3, ?_, y5⟩
        rw [(hS _ y2.1 y2.2).2.1]; exact y4
      · rw [h44]; exact hP k k0 k1
    · have hu := w2 v hv.1 (by omega)
      have hcv : cntP (zA β 0 19) (v + 1).toNat = cntP (zA β 0 19) v.toNat + (if zA β 0 19 v = 0 then 1 else 0) := by
        rw [show (v + 1).toNat = v.toNat + 1 by omega]
        show cntP (zA β 0 19) v.toNat + (if zA β 0 19 ((v.toNat : Nat) : Int) = 0 then 1 else 0) = _
        rw [show ((v.toNat : Nat) : Int) = v by omega]
      have hcm := cntP_mono (h := zA β 0 19) (m := (v + 1).toNat) (zI β 0 23).toNat (by omega)
      refine ⟨by omega, by omega, fun z => ?_, fun nz => ?_⟩
      · rw [if_pos z] at hcv
        have hn := hu.2.1
        have ha := wus.1
        have hk : 0 ≤ zA τ 0 56 m ∧ zA τ 0 56 m ≤ 79 := by omega
        have hn14 := wpb v hv.1 (by omega) z
        have hn16 := wO _ hn.1 hn.2
        have e56 : zA (zsA (zsA (zsA (zsA τ 0 57 (80 * m + zA τ 0 56 m) (zA β 0 12 (zA β 0 20 v))) 0 58 (80 * m + zA τ 0 56 m) (zA β 0 14 (zA β 0 20 v))) 0 59 (80 * m + zA τ 0 56 m) (zA β 0 16 (zA β 0 20 v))) 0 56 m (zA τ 0 56 m + 1)) 0 56 m = zA τ 0 56 m + 1 := pu_eq (h := zA τ 0 56)
        refine ⟨by omega, hn, by omega, ih _ _ ⟨⟨((((hf.ta (by decide)).ta (by decide)).ta (by decide)).ta (by decide)), ((((hO.u57 (by omega)).u58 (by omega)).u59 (by omega)).u56), hG.u57 (w1 _ hn.1 hn.2).2.2.2, h44⟩, hS, hX, hc, by omega, ?_, ?_, hq, ?_, ?_⟩ (by show (zI β 0 23 - (v + 1)).toNat < (zI β 0 23 - v).toNat; omega)⟩
        · rw [e56, h56, hcv]
        · intro k k0 k1
          rw [e56] at k1
          show (0 ≤ zu (zA τ 0 58) (80 * m + zA τ 0 56 m) (zA β 0 14 (zA β 0 20 v)) (80 * m + k) ∧ zu (zA τ 0 58) (80 * m + zA τ 0 56 m) (zA β 0 14 (zA β 0 20 v)) (80 * m + k) < zI β 0 34) ∧ (0 ≤ zu (zA τ 0 59) (80 * m + zA τ 0 56 m) (zA β 0 16 (zA β 0 20 v)) (80 * m + k) ∧ zu (zA τ 0 59) (80 * m + zA τ 0 56 m) (zA β 0 16 (zA β 0 20 v)) (80 * m + k) ≤ 62000)
          by_cases e : k = zA τ 0 56 m
          · rw [e, pu_eq, pu_eq]; exact ⟨hn14, hn16⟩
          · have hne : 80 * m + k ≠ 80 * m + zA τ 0 56 m := by omega
            rw [pu_ne hne, pu_ne hne]
            exact hP k k0 (by omega)
        · intro k k0 k1
          rw [e56] at k1
          show ∃ u : Int, (0 ≤ u ∧ u < v + 1) ∧ zA β 0 19 u = 0 ∧ zu (zA τ 0 57) (80 * m + zA τ 0 56 m) (zA β 0 12 (zA β 0 20 v)) (80 * m + k) = zA β 0 12 (zA β 0 20 u) ∧ zu (zA τ 0 58) (80 * m + zA τ 0 56 m) (zA β 0 14 (zA β 0 20 v)) (80 * m + k) = zA β 0 14 (zA β 0 20 u) ∧ zu (zA τ 0 59) (80 * m + zA τ 0 56 m) (zA β 0 16 (zA β 0 20 v)) (80 * m + k) = zA β 0 16 (zA β 0 20 u)
          by_cases e : k = zA τ 0 56 m
          · rw [e, pu_eq, pu_eq, pu_eq]; exact ⟨v, by omega, z, rfl, rfl, rfl⟩
          · have hne : 80 * m + k ≠ 80 * m + zA τ 0 56 m := by omega
            rw [pu_ne hne, pu_ne hne, pu_ne hne]
            obtain ⟨u, x1, x2⟩ := hy.1 k k0 (by omega)
            exact ⟨u, by omega, x2⟩
        · intro u u0 u1 uz
          show ∃ k : Int, (0 ≤ k ∧ k < zA (zsA (zsA (zsA (zsA τ 0 57 (80 * m + zA τ 0 56 m) (zA β 0 12 (zA β 0 20 v))) 0 58 (80 * m + zA τ 0 56 m) (zA β 0 14 (zA β 0 20 v))) 0 59 (80 * m + zA τ 0 56 m) (zA β 0 16 (zA β 0 20 v))) 0 56 m (zA τ 0 56 m + 1)) 0 56 m) ∧ zu (zA τ 0 57) (80 * m + zA τ 0 56 m) (zA β 0 12 (zA β 0 20 v)) (80 * m + k) = zA β 0 12 (zA β 0 20 u) ∧ zu (zA τ 0 58) (80 * m + zA τ 0 56 m) (zA β 0 14 (zA β 0 20 v)) (80 * m + k) = zA β 0 14 (zA β 0 20 u) ∧ zu (zA τ 0 59) (80 * m + zA τ 0 56 m) (zA β 0 16 (zA β 0 20 v)) (80 * m + k) = zA β 0 16 (zA β 0 20 u)
          rw [e56]
          by_cases e : u = v
          · refine ⟨zA τ 0 56 m, by omega, ?_⟩
            rw [e, pu_eq, pu_eq, pu_eq]; exact ⟨rfl, rfl, rfl⟩
          · obtain ⟨k, x1, x2⟩ := hy.2 u u0 (by omega) uz
            refine ⟨k, by omega, ?_⟩
            have hne : 80 * m + k ≠ 80 * m + zA τ 0 56 m := by omega
            rw [pu_ne hne, pu_ne hne, pu_ne hne]; exact x2
      · rw [if_neg nz] at hcv
        refine ih _ _ ⟨⟨hf, hO, hG, h44⟩, hS, hX, hc, by omega, by omega, hP, hq, fun k k0 k1 => ?_, fun u u0 u1 uz => ?_⟩ (by show (zI β 0 23 - (v + 1)).toNat < (zI β 0 23 - v).toNat; omega)
        · obtain ⟨u, x1, x2⟩ := hy.1 k k0 k1
          exact ⟨u, by omega, x2⟩
        · by_cases e : u = v
          · rw [e] at uz; exact absurd uz nz
          · exact hy.2 u u0 (by omega) uz
  -- the pieces
  have f161 : ∀ τ : ZS, WIy β m τ → RG β m τ (zI β 0 34) → MQr β m τ mD0 → zA τ 0 56 m = 0 → wpX11_write_161 m 0 τ Q := by
    intro τ0 h0 hS0 hq0 he0
    have hc0 : zA τ0 0 50 m = 0 := hq0.2.1
    unfold wpX11_write_161
    refine lfp1_ind (fun v _ => (zI β 0 31 - v).toNat) (fun v τ => WIy β m τ ∧ RG β m τ (zI β 0 34) ∧ FX β m τ ∧ (0 ≤ (qK β v.toNat).nf ∧ 2 * (qK β v.toNat).nf ≤ psum (szp β) v.toNat) ∧ (0 ≤ v ∧ v ≤ zI β 0 31) ∧ zA τ 0 56 m = 0 ∧ MQr β m τ (qK β v.toNat)) ?_ ⟨h0, hS0, fun k k0 k1 => absurd k1 (by rw [hc0]; omega), ⟨Int.le_refl _, Int.le_refl _⟩, by omega, he0, hq0⟩
    intro P v τ ⟨hI, hS, hX, hc, hv, h56, hq⟩ ih
    obtain ⟨hf, hO, hG, h44⟩ := hI
    have i31 : zI τ 0 31 = zI β 0 31 := hf.1 31 (by decide)
    show wpbX11_write_161 P m v τ Q
    unfold wpbX11_write_161
    rw [i31]
    refine ⟨by omega, by omega, fun e => ?_, fun ne => ?_⟩
    · have hev : v = zI β 0 31 := by omega
      have h3 := wL.2.2
      have h50 := hq.2.1
      rw [hev] at hc hq h50
      exact f183 τ ⟨hf, hO, hG, h44⟩ hS hX (by omega) h56 hq
    · refine y_put hWC hm ⟨hv.1, by omega⟩ (hf.up (by decide) (by decide)) (fun s s0 s1 => ⟨(hS s s0 s1).1, (hS s s0 s1).2.1⟩) hG hX hc hq (fun υ hfu hOu hGu hXu hcu hqu hvu => ?_)
      have e45 : zA υ 0 45 = zA τ 0 45 := hfu.2 45 (by decide)
      have e46 : zA υ 0 46 = zA τ 0 46 := hfu.2 46 (by decide)
      have e47 : zA υ 0 47 = zA τ 0 47 := hfu.2 47 (by decide)
      have e48 : zA υ 0 48 = zA τ 0 48 := hfu.2 48 (by decide)
      have e44 : zA υ 0 44 = zA τ 0 44 := hfu.2 44 (by decide)
      have e56 : zA υ 0 56 = zA τ 0 56 := hfu.2 56 (by decide)
      refine ih _ _ ⟨⟨hf.tr (hfu.up (by decide) (by decide)), hO.tr ⟨hOu, hvu⟩, hGu, by rw [e44]; exact h44⟩, ?_, hXu, by rw [qK_s hv.1]; exact hcu, by omega, by rw [e56]; exact h56, by rw [qK_s hv.1]; exact hqu⟩ (by show (zI β 0 31 - (v + 1)).toNat < (zI β 0 31 - v).toNat; omega)
      intro s s0 s1
      rw [e45, e46, e47, e48]; exact hS s s0 s1
  -- the bytes are cleared
  have f133 : ∀ τ : ZS, WIy β m τ → RG β m τ (zI β 0 34) → zA τ 0 50 m = 0 → zA τ 0 56 m = 0 → wpX11_write_133 m 0 τ Q := by
    intro τ0 h0 hS0 hc0 he0
    unfold wpX11_write_133
    refine lfp1_ind (fun v _ => (400 - v).toNat) (fun v τ => WIy β m τ ∧ RG β m τ (zI β 0 34) ∧ zA τ 0 50 m = 0 ∧ (0 ≤ v ∧ v ≤ 400) ∧ zA τ 0 56 m = 0 ∧ (∀ j : Int, 0 ≤ j → j < v → zA τ 0 49 (400 * m + j) = 0)) ?_ ⟨h0, hS0, hc0, by omega, he0, fun j j0 j1 => absurd j1 (by omega)⟩
    intro P v τ ⟨hI, hS, hc, hv, h56, hz⟩ ih
    show wpbX11_write_133 P m v τ Q
    unfold wpbX11_write_133
    refine ⟨by omega, fun e => f161 τ hI hS ⟨fun j j0 j1 => hz j j0 (by omega), hc, fun k k0 k1 => absurd (show k < 0 from k1) (by omega)⟩ h56, fun ne => ⟨by omega, ih _ _ ⟨⟨hI.1.ta (by decide), hI.2.1.u49 (by omega), hI.2.2.1.u49 (by decide), hI.2.2.2⟩, hS, hc, by omega, h56, fun j j0 j1 => ?_⟩ (by show (400 - (v + 1)).toNat < (400 - v).toNat; omega)⟩⟩
    show zu (zA τ 0 49) (400 * m + v) 0 (400 * m + j) = 0
    by_cases e : j = v
    · rw [e, pu_eq]
    · rw [pu_ne (by omega)]; exact hz j j0 (by omega)
  unfold wpX11_write_35
  refine lfp2_ind (fun _ v _ => (zI β 0 34 - v).toNat) (fun a v τ => WIy β m τ ∧ RG β m τ v ∧ zA τ 0 50 m = 0 ∧ (0 ≤ v ∧ v ≤ zI β 0 34) ∧ zA τ 0 56 m = 0 ∧ a = psum (zA β 0 36) v.toNat) ?_ ⟨⟨(((fr.rf.ta (by decide)).ta (by decide)).ta (by decide)), (OY.rf.u44.u50.u56), hM, pu_eq (h := zA β 0 44)⟩, fun s s0 s1 => absurd s1 (by omega), pu_eq (h := zA β 0 50), by omega, pu_eq (h := zA β 0 56), rfl⟩
  intro P a v τ ⟨hI, hS, hc, hv, h56, ha⟩ ih
  obtain ⟨hf, hO, hG, h44⟩ := hI
  have b := hf.2
  have i34 : zI τ 0 34 = zI β 0 34 := hf.1 34 (by decide)
  show wpbX11_write_35 P m a v τ Q
  unfold wpbX11_write_35
  rw [i34, b 35 (by decide), b 12 (by decide), b 15 (by decide), b 36 (by decide)]
  refine ⟨by omega, by omega, fun e => ?_, fun ne => ?_⟩
  · have hev : v = zI β 0 34 := by omega
    exact f133 τ ⟨hf, hO, hG, h44⟩ (hev ▸ hS) hc h56
  · have hn := (wal v hv.1 (by omega)).1
    have hal := (wal v hv.1 (by omega)).2
    have hg := w1 _ hn.1 hn.2
    refine ⟨by omega, hn, by omega, ih _ _ _ ⟨⟨((((hf.ta (by decide)).ta (by decide)).ta (by decide)).ta (by decide)), ((((hO.u45 (by omega)).u46 (by omega)).u47 (by omega)).u48 (by omega)), hG.u45 hg.2.2.2, h44⟩, ?_, hc, by omega, h56, ?_⟩ (by show (zI β 0 34 - (v + 1)).toNat < (zI β 0 34 - v).toNat; omega)⟩
    · intro s s0 s1
      show zu (zA τ 0 47) (24 * m + v) a (24 * m + s) = _ ∧ zu (zA τ 0 48) (24 * m + v) (zA β 0 36 v) (24 * m + s) = _ ∧ zu (zA τ 0 46) (24 * m + v) (zA β 0 15 (zA β 0 35 v)) (24 * m + s) = _ ∧ zu (zA τ 0 45) (24 * m + v) (zA β 0 12 (zA β 0 35 v)) (24 * m + s) = _
      by_cases e : s = v
      · rw [e, pu_eq, pu_eq, pu_eq, pu_eq]; exact ⟨ha, rfl, rfl, rfl⟩
      · have hne : 24 * m + s ≠ 24 * m + v := by omega
        rw [pu_ne hne, pu_ne hne, pu_ne hne, pu_ne hne]
        exact hS s s0 (by omega)
    · rw [ha, hps v hv.1]
theorem y_write {β : ZS} {m : Int} {Q : ZS → Prop} (hW : WC β) (hM : GM β) (hm : 0 ≤ m ∧ m ≤ 2) (hQ : ∀ τ : ZS, fr [] WA β τ → OY m β τ → GM τ → MI τ m → zA τ 0 43 = zu (zA β 0 43) m 1 → zA τ 0 44 m = zI β 0 34 → RG β m τ (zI β 0 34) → MQr β m τ (qK β (zI β 0 31).toNat) → PY β m τ (zI β 0 23) → Q τ) : wpX11_write m β Q := by
  unfold wpX11_write
  refine ⟨by omega, y_write_b (β := zsA β 0 43 m 1) hW (hM.u43 (by decide)) hm (fun τ f o g mi e44 rg mq py => ?_)⟩
  have f0 : fr [] WA β (zsA β 0 43 m 1) := fr.rf.ta (by decide)
  have qe : ∀ k : Nat, qK (zsA β 0 43 m 1) k = qK β k := by
    intro k
    induction k with
    | zero => rfl
    | succ k ih => show qI (zsA β 0 43 m 1) (qK (zsA β 0 43 m 1) k) k = qI β (qK β k) k; rw [ih]; rfl
  have o0 : OY m β (zsA β 0 43 m 1) := ⟨OU.rf.u43 (v := 1), OV.rf⟩
  refine hQ τ (f0.tr (f.up (by decide) (by decide))) (o0.tr o) g mi (f.2 43 (by decide)) e44 rg ?_ py
  have mq' := mq
  rw [show (zI (zsA β 0 43 m 1) 0 31).toNat = (zI β 0 31).toNat from rfl, qe] at mq'
  exact mq'
