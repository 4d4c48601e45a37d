/-! P: the parse as a whole -/
/-- what the parse finds -/
def PA0 (σ : ZS) : Prop := Tx σ ∧ ((-1 ≤ zI σ 0 9 ∧ zI σ 0 9 ≤ 47) ∧ (0 ≤ zI σ 0 10 ∧ zI σ 0 10 ≤ 1000009) ∧ (0 ≤ zI σ 0 8 ∧ zI σ 0 8 ≤ 72057594037927936) ∧ (0 ≤ zI σ 0 37 ∧ zI σ 0 37 ≤ 5) ∧ (-100 ≤ zI σ 0 38 ∧ zI σ 0 38 ≤ 1000009) ∧ (-1 ≤ zI σ 0 39 ∧ zI σ 0 39 < 240) ∧ (-1 ≤ zI σ 0 41 ∧ zI σ 0 41 ≤ 47) ∧ (-1 ≤ zI σ 0 42 ∧ zI σ 0 42 ≤ 47)) ∧ G1 σ ∧ G2 σ ∧ G3 σ ∧ (∀ s : Int, 0 ≤ s → s < 80 → 0 ≤ zA σ 0 35 s ∧ zA σ 0 35 s < 240)
theorem GG.pa0 {σ : ZS} (h : GG σ) : PA0 σ := by
  obtain ⟨hT, ⟨l1, l2, l3, l4, l5, l6, l7, l8, l9, l10, l11, l12, l13, l14, l15, l16, l17, l18, l19⟩, hk, hn, hw, h1, h2, h3, h4, h5, h6⟩ := h
  exact ⟨hT, ⟨l4, l5, l6, l14, l15, l16, l17, l18⟩, h1, h2, h3, h4.1⟩
theorem s_next0 {σ : ZS} {Q : ZS → Prop} (hA0 : PA0 σ) (i5 : zI σ 0 5 = 0) (i17 : zI σ 0 17 = 0) (i18 : zI σ 0 18 = -1) (i23 : zI σ 0 23 = 0) (i31 : zI σ 0 31 = 0) (i32 : zI σ 0 32 = -1) (i33 : zI σ 0 33 = 0) (i34 : zI σ 0 34 = 0) (hQ : ∀ τ : ZS, GG τ → fr [5, 6, 7, 8, 9, 10] [] σ τ → Itm τ → Q τ) : wpX11_next σ Q := by
  obtain ⟨hT, ⟨l4, l5, l6, l14, l15, l16, l17, l18⟩, h1, h2, h3, h41⟩ := hA0
  have l1 := hT.1
  have hA : GA σ := ⟨h1, h2, h3, ⟨h41, fun s a b => by omega, fun n a b => by omega⟩, ⟨fun u a b => by omega, fun p a b => by omega⟩, fun _ => ⟨fun p a b => by omega, fun n a b => by omega⟩⟩
  refine s_next hT (by omega) (fun τ hn => ?_)
  obtain ⟨hf, s, e, hrun, q6, q5, hcase⟩ := hn
  have e2 := hf.1 2 (by decide); have e17 := hf.1 17 (by decide); have e18 := hf.1 18 (by decide); have e23 := hf.1 23 (by decide); have e31 := hf.1 31 (by decide); have e32 := hf.1 32 (by decide); have e33 := hf.1 33 (by decide); have e34 := hf.1 34 (by decide)
  have e37 := hf.1 37 (by decide); have e38 := hf.1 38 (by decide); have e39 := hf.1 39 (by decide); have e41 := hf.1 41 (by decide); have e42 := hf.1 42 (by decide)
  have a1 : zA τ 0 1 = zA σ 0 1 := hf.2 1 (by decide)
  have hTt : Tx τ := hT.fr hf (by decide) (by decide) (by decide)
  obtain ⟨r1, r2, r3, r4⟩ := hrun
  have hch : ∀ j : Int, 0 ≤ j → j < zI σ 0 2 → 0 ≤ zA σ 0 1 j ∧ zA σ 0 1 j < 256 := fun j a b => by have := hT.2.1 j a b; omega
  have key : (s ≤ e ∧ e ≤ zI σ 0 2) ∧ (0 ≤ zI τ 0 7 ∧ zI τ 0 7 ≤ 126) ∧ (zI τ 0 7 = 0 → s = zI σ 0 2) ∧ (zI τ 0 7 ≠ 0 → s < e) ∧ (-1 ≤ zI τ 0 9 ∧ zI τ 0 9 ≤ 47) ∧ (zI τ 0 7 = 1 → zI τ 0 9 = 12 → s + 3 ≤ e) ∧ (zI τ 0 7 = 1 → zI τ 0 9 = 13 → s + 6 ≤ e) ∧ (0 ≤ zI τ 0 10 ∧ zI τ 0 10 ≤ 1000009) ∧ (0 ≤ zI τ 0 8 ∧ zI τ 0 8 ≤ 72057594037927936) ∧ (zI τ 0 7 = 1 → e = zI σ 0 2 ∨ ¬ (cL (zA σ 0 1 e) ∨ cD (zA σ 0 1 e))) ∧ (zI τ 0 7 = 1 ∨ zI τ 0 7 = 2 → s < zI σ 0 2 ∧ (cL (zA σ 0 1 s) ∨ cD (zA σ 0 1 s))) := by
    rcases hcase with ⟨c1, c2, c3, c4, c5, c6⟩ | ⟨c1, c2, c3, c4, c5, c6, c7⟩ | ⟨c1, c2, c3, c4, c5, c6, c7⟩ | ⟨c1, c2, c3, c4, c5, c6, c7, c8⟩
    · exact ⟨by omega, by omega, by omega, by omega, by omega, by omega, by omega, by omega, by omega, by omega, by omega⟩
    · obtain ⟨d1, d2, d3, d4⟩ := c3
      have hb := wv_bd (h := zA σ 0 1) (s := s) (min (e - s) 7).toNat (fun j a b => hch j (by omega) (by omega))
      have h7 : (256 : Int) ^ (min (e - s) 7).toNat ≤ 256 ^ 7 := p256 (by omega)
      have h77 : (256 : Int) ^ 7 = 72057594037927936 := by decide
      have hcode : -1 ≤ zI τ 0 9 ∧ zI τ 0 9 ≤ 47 := by
        rcases c6 with c6 | c6
        · have := c6.1; omega
        · have := c6.1; have := c6.2.1; omega
      have hlen : ∀ (k : Nat) (c : Int), zI τ 0 9 = c → 0 ≤ c → c < 48 → (256 : Int) ^ k ≤ zwords c → k < (min (e - s) 7).toNat := by
        intro k c k1 k2 k3 k4
        refine wv_len (h := zA σ 0 1) (s := s) (w := zI τ 0 8) k (fun j a b => hch j (by omega) (by omega)) c5 ?_
        rcases c6 with c6 | c6
        · have := c6.1; omega
        · have := c6.2.2.1
          rw [k1, hT.2.2 c k2 k3] at this
          omega
      refine ⟨by omega, by rw [c4]; split <;> omega, fun h => by rw [c4] at h; split at h <;> omega, fun _ => by omega, hcode, fun t1 t2 => ?_, fun t1 t2 => ?_, by omega, by rw [c5]; omega, fun _ => d4, fun _ => ⟨c1, Or.inl c2⟩⟩
      · have := hlen 2 12 t2 (by decide) (by decide) (by decide)
        omega
      · have := hlen 5 13 t2 (by decide) (by decide) (by decide)
        omega
    · obtain ⟨d1, d2, d3, d4⟩ := c3
      have hb := nv_bd (h := zA σ 0 1) (s := s) (e - s - 1).toNat (fun j a b => by
        by_cases q : j = s
        · rw [q]; exact c2
        · exact d3 j (by omega) (by omega))
      rw [← c4] at hb
      have t7 : zI τ 0 7 = 2 ∨ zI τ 0 7 = 9 := by
        rw [c5]; split
        · exact Or.inl rfl
        · exact Or.inr rfl
      clear d3 d4 c5
      exact ⟨by omega, by omega, by omega, by omega, by omega, by omega, by omega, by omega, by omega, by omega, fun _ => ⟨c1, Or.inr c2⟩⟩
    · have ht := hT.2.1 s (by omega) c1
      have t7 : zI τ 0 7 ≠ 0 ∧ zI τ 0 7 ≠ 1 ∧ zI τ 0 7 ≠ 2 ∧ 0 ≤ zI τ 0 7 ∧ zI τ 0 7 ≤ 126 := by
        rcases c5 with c5 | c5
        · have k1 := c5.1; have k2 := c5.2; unfold cS at k1; omega
        · have k2 := c5.2; omega
      clear c2 c3 c5
      exact ⟨by omega, by omega, by omega, by omega, by omega, by omega, by omega, by omega, by omega, by omega, by omega⟩
  clear hcase
  obtain ⟨k1, k2, k3, k4, k5, k6, k7, k8, k9, k10, k11⟩ := key
  have hc : 7 * cntP (zA τ 0 19) (zI τ 0 23).toNat = 0 := by rw [e23, i23]; rfl
  have hLt : GL τ := by
    unfold GL
    clear k3 k4 k6 k7 k10 k11
    exact ⟨by omega, by omega, by omega, by omega, by omega, by omega, by omega, by omega, by omega, by omega, by omega, by omega, by omega, by omega, by omega, by omega, by omega, by omega, by omega⟩
  have hGG : GG τ := ⟨hTt, hLt, ⟨fun t => by have := k3 t; omega, fun t => by have := k4 t; omega, fun t1 t2 => by have := k6 t1 t2; omega, fun t1 t2 => by have := k7 t1 t2; omega, fun t1 => by rw [q5, e2, a1]; exact k10 t1⟩, fun _ _ => by omega, ⟨fun _ => by omega, fun _ q => by omega⟩, hf.gA hA⟩
  exact hQ τ hGG hf ⟨hGG, fun _ => by omega, by omega, by omega, by omega⟩
theorem s_parse {σ : ZS} {Q : Int → ZS → Prop} (hA0 : PA0 σ) (hQ : ∀ (r : Int) (τ : ZS), GG τ → fr PF PA σ τ → (r = 0 ∨ r = 1) → Q r τ) : wpX11_parse σ Q := by
  unfold wpX11_parse
  obtain ⟨σ0, h0⟩ : ∃ σ0, σ0 = zsI (zsI (zsI (zsI (zsI (zsI (zsI (zsI σ 0 5 0) 0 17 0) 0 18 (-1)) 0 23 0) 0 31 0) 0 32 (-1)) 0 33 0) 0 34 0 := ⟨_, rfl⟩
  have hf0 : fr PF PA σ σ0 := by rw [h0]; exact (((((((fr.rf.ti (by decide)).ti (by decide)).ti (by decide)).ti (by decide)).ti (by decide)).ti (by decide)).ti (by decide)).ti (by decide)
  have hA1 : PA0 σ0 := by rw [h0]; exact hA0
  rw [← h0]
  refine s_next0 hA1 (by rw [h0]; rfl) (by rw [h0]; rfl) (by rw [h0]; rfl) (by rw [h0]; rfl) (by rw [h0]; rfl) (by rw [h0]; rfl) (by rw [h0]; rfl) (by rw [h0]; rfl) (fun τ g f hI => ?_)
  have hfτ : fr PF PA σ τ := hf0.tr (f.up (by decide) (by decide))
  unfold wpX11_parse_44
  refine lfp0_ind (fun υ => (zI σ 0 2 - zI υ 0 6).toNat) (fun υ => Itm υ ∧ fr PF PA σ υ) ?_ ⟨hI, hfτ⟩
  intro P υ hI2 hP
  obtain ⟨hIu, hfu⟩ := hI2
  have hL := hIu.1.2.1
  obtain ⟨l1, l2, l3, -⟩ := hL
  have u2 := hfu.1 2 (by decide)
  unfold wpbX11_parse_44
  refine ⟨by omega, fun _ => hQ 1 υ hIu.1 hfu (Or.inr rfl), fun t0 => s_item hIu (fun r ω hp => ?_)⟩
  obtain ⟨pw, hw⟩ := hp
  have hfw : fr PF PA σ ω := hfu.tr pw.1
  have hlt := hIu.1.2.2.1.2.1 t0
  rcases hw with ⟨r0, gw⟩ | ⟨r1, iw, s6⟩
  · exact ⟨by omega, fun q => absurd r0 q, fun _ => hQ 0 ω gw hfw (Or.inl rfl)⟩
  · refine ⟨by omega, fun _ => hP ω ⟨iw, hfw⟩ ?_, fun q => by omega⟩
    have hLw := iw.1.2.1
    obtain ⟨m1, m2, -⟩ := hLw
    have w2 := hfw.1 2 (by decide)
    omega
