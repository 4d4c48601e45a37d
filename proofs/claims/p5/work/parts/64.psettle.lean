/-! P: lay and settle -/
def OFs (σ : ZS) : Prop := ∀ n : Int, 0 ≤ n → n < 240 → 0 ≤ zA σ 0 16 n ∧ zA σ 0 16 n ≤ 62000
def Lyp (σ : ZS) : Prop := (∀ s : Int, 0 ≤ s → s < zI σ 0 34 → 0 ≤ zA σ 0 36 s ∧ zA σ 0 36 s ≤ 62000) ∧ (∀ p : Int, 0 ≤ p → p < zI σ 0 31 → 0 ≤ zA σ 0 29 p ∧ zA σ 0 29 p ≤ 62000 ∧ zA σ 0 29 p + szp σ p ≤ zA σ 0 36 (zA σ 0 28 p)) ∧ psum (zA σ 0 36) (zI σ 0 34).toNat = psum (szp σ) (zI σ 0 31).toNat
/-- the pieces lie in segments -/
def Sg (σ : ZS) : Prop := (0 ≤ zI σ 0 31 ∧ zI σ 0 31 ≤ 968) ∧ (0 ≤ zI σ 0 34 ∧ zI σ 0 34 ≤ 80) ∧ (∀ p : Int, 0 ≤ p → p < zI σ 0 31 → 0 ≤ zA σ 0 28 p ∧ zA σ 0 28 p < zI σ 0 34)
theorem szp_eq {σ τ : ZS} (h24 : zA τ 0 24 = zA σ 0 24) (h25 : zA τ 0 25 = zA σ 0 25) (h30 : zA τ 0 30 = zA σ 0 30) : szp τ = szp σ := by
  funext p
  unfold szp
  rw [h24, h25, h30]
theorem s_lay {σ : ZS} {Q : ZS → Prop} (h3 : G3 σ) (hO : OFs σ) (hS : Sg σ) (hQ : ∀ τ : ZS, fr [] [16, 29, 36] σ τ → OFs τ → Lyp τ → Q τ) : wpX11_lay σ Q := by
  obtain ⟨hp, hs, hg⟩ := hS
  unfold wpX11_lay wpX11_lay_2
  refine lfp1_ind (fun v _ => (80 - v).toNat) (fun v τ => (0 ≤ v ∧ v ≤ zI σ 0 34) ∧ fr [] [36] σ τ ∧ (∀ j : Int, 0 ≤ j → j < v → zA τ 0 36 j = 0)) ?_ ⟨by omega, fr.rf, fun j a b => by omega⟩
  intro P v τ hI hP
  obtain ⟨hv, hf, hz⟩ := hI
  have i34 := hf.1 34 (by decide)
  unfold wpbX11_lay_2
  rw [i34]
  refine ⟨by omega, by omega, fun q => ?_, fun q => ⟨by omega, hP _ _ ⟨by omega, hf.ta (by decide), fun j j0 j1 => ?_⟩ (by omega)⟩⟩
  rotate_left
  · show zu (zA τ 0 36) v 0 j = 0
    by_cases e : j = v
    · rw [e, pu_eq]
    · rw [pu_ne e]; exact hz j j0 (by omega)
  have hsum0 : psum (zA τ 0 36) (zI σ 0 34).toNat = 0 := by
    rw [psum_ext (g := fun _ => 0) _ (fun j a b => hz j a (by omega))]
    generalize (zI σ 0 34).toNat = n
    induction n with
    | zero => rfl
    | succ n ih => show psum (fun _ => 0) n + 0 = 0; omega
  have hf3 : fr [] [16, 29, 36] σ τ := hf.up (by decide) (by decide)
  unfold wpX11_lay_25
  refine lfp1_ind (fun k _ => (1200 - k).toNat) (fun k υ => (0 ≤ k ∧ k ≤ zI σ 0 31) ∧ fr [] [16, 29, 36] σ υ ∧ OFs υ ∧ (∀ s : Int, 0 ≤ s → s < zI σ 0 34 → 0 ≤ zA υ 0 36 s ∧ zA υ 0 36 s ≤ 64 * k) ∧ (∀ p : Int, 0 ≤ p → p < k → 0 ≤ zA υ 0 29 p ∧ zA υ 0 29 p ≤ 62000 ∧ zA υ 0 29 p + szp σ p ≤ zA υ 0 36 (zA σ 0 28 p)) ∧ psum (zA υ 0 36) (zI σ 0 34).toNat = psum (szp σ) k.toNat) ?_ ⟨by omega, hf3, (by unfold OFs; rw [hf.2 16 (by decide)]; exact hO), fun s a b => by rw [hz s a (by omega)]; omega, fun p a b => by omega, hsum0⟩
  intro P2 k υ hI2 hP2
  obtain ⟨hk, hfu, hOu, hsz, hat, hsum⟩ := hI2
  have j31 := hfu.1 31 (by decide)
  have a24 := hfu.2 24 (by decide); have a25 := hfu.2 25 (by decide); have a28 := hfu.2 28 (by decide); have a30 := hfu.2 30 (by decide)
  have hszp := szp_eq a24 a25 a30
  have h3u : G3 υ := by unfold G3; rw [a24, a25, hfu.2 26 (by decide), hfu.2 27 (by decide), a28, a30]; exact h3
  unfold wpbX11_lay_25
  rw [j31, a28, a24, a25]
  refine ⟨by omega, by omega, fun q2 => hQ υ hfu hOu ⟨?_, ?_, ?_⟩, fun q2 => ?_⟩
  · intro s a b
    rw [hfu.1 34 (by decide)] at b
    have := hsz s a b; omega
  · intro p a b
    rw [j31] at b
    rw [a28, hszp]
    exact hat p a (by omega)
  · rw [hfu.1 34 (by decide), j31, hszp, hsum, show k = zI σ 0 31 by omega]
  · obtain ⟨q1, q2', q3, q4, q5, q6, q7, q8⟩ := h3 k hk.1 (by omega)
    have hseg := hg k hk.1 (by omega)
    have hsk := hsz (zA σ 0 28 k) hseg.1 hseg.2
    have hzb := szp_bd h3 hk.1 (by omega)
    have hnn : ∀ s : Int, 0 ≤ s → s < ((zI σ 0 34).toNat : Int) → 0 ≤ zA υ 0 36 s := fun s a b => (hsz s a (by omega)).1
    -- the step
    have go : ∀ ω : ZS, fr [] [16, 29, 36] σ ω → OFs ω → zA ω 0 36 = zA υ 0 36 → zA ω 0 29 = zu (zA υ 0 29) k (zA υ 0 36 (zA σ 0 28 k)) → wpX11_lay_80 P2 k (zA σ 0 28 k) ω Q := by
      intro ω hfw hOw e36 e29
      have b24 := hfw.2 24 (by decide); have b25 := hfw.2 25 (by decide); have b30 := hfw.2 30 (by decide); have b28 := hfw.2 28 (by decide)
      have hszw := szp_eq b24 b25 b30
      have h3w : G3 ω := by unfold G3; rw [b24, b25, hfw.2 26 (by decide), hfw.2 27 (by decide), b28, b30]; exact h3
      unfold wpX11_lay_80
      refine ⟨by omega, s_sizeOf h3w (by omega) ?_⟩
      rw [hszw, e36]
      have c36 : zA (zsA ω 0 36 (zA σ 0 28 k) (zA υ 0 36 (zA σ 0 28 k) + szp σ k)) 0 36 = zu (zA υ 0 36) (zA σ 0 28 k) (zA υ 0 36 (zA σ 0 28 k) + szp σ k) := by
        show zu (zA ω 0 36) _ _ = _; rw [e36]
      refine hP2 _ _ ⟨by omega, hfw.ta (by decide), hOw, fun s a b => ?_, fun p a b => ?_, ?_⟩ (by omega)
      · rw [c36]
        have := hsz s a b
        by_cases e : s = zA σ 0 28 k
        · rw [e, pu_eq]; omega
        · rw [pu_ne e]; omega
      · rw [c36]
        show 0 ≤ zA ω 0 29 p ∧ zA ω 0 29 p ≤ 62000 ∧ zA ω 0 29 p + szp σ p ≤ _
        rw [e29]
        by_cases e : p = k
        · rw [e, pu_eq, pu_eq]; omega
        · rw [pu_ne e]
          have hh := hat p a (by omega)
          refine ⟨hh.1, hh.2.1, ?_⟩
          by_cases e2 : zA σ 0 28 p = zA σ 0 28 k
          · rw [e2, pu_eq]; rw [e2] at hh; omega
          · rw [pu_ne e2]; exact hh.2.2
      · rw [c36, psum_zu _ hseg.1 (by omega), hsum, show (k + 1).toNat = k.toNat + 1 by omega]
        show psum (szp σ) k.toNat + szp σ k = psum (szp σ) k.toNat + szp σ ((k.toNat : Nat) : Int)
        rw [show ((k.toNat : Nat) : Int) = k by omega]
    refine ⟨by omega, by omega, by omega, fun n7 => go _ (hfu.ta (by decide)) hOu rfl rfl, fun e7 => ⟨q2' (by omega) (by omega), go _ ((hfu.ta (by decide)).ta (by decide)) ?_ rfl rfl⟩⟩
    intro n n0 n1
    show 0 ≤ zu (zA υ 0 16) (zA σ 0 25 k) (zA υ 0 36 (zA σ 0 28 k)) n ∧ zu (zA υ 0 16) (zA σ 0 25 k) (zA υ 0 36 (zA σ 0 28 k)) n ≤ 62000
    by_cases e : n = zA σ 0 25 k
    · rw [e, pu_eq]; omega
    · rw [pu_ne e]; exact hOu n n0 n1
theorem s_distance {σ : ZS} {p : Int} {Q : Int → ZS → Prop} (h3 : G3 σ) (h0 : 0 ≤ p ∧ p < 1200) (hn : 0 ≤ zA σ 0 25 p ∧ zA σ 0 25 p < 240) (hQ : Q (zA σ 0 16 (zA σ 0 25 p) - zA σ 0 29 p - szp σ p) σ) : wpX11_distance p σ Q := by
  unfold wpX11_distance
  exact ⟨h0, hn, s_sizeOf h3 h0 hQ⟩
theorem s_isShort {σ : ZS} {d : Int} {Q : Int → ZS → Prop} (hd : -1000000 ≤ d ∧ d ≤ 1000000) (h1 : -128 ≤ d → d ≤ 127 → Q 1 σ) (h0 : (d < -128 ∨ 127 < d) → Q 0 σ) : wpX11_isShort d σ Q := by
  unfold wpX11_isShort wpX11_isShort_16 wpX11_isShort_17
  exact ⟨by omega, fun q => ⟨by decide, h0 (Or.inl q)⟩, fun q => ⟨fun k => ⟨by decide, h0 (Or.inr k)⟩, fun k => ⟨by decide, h1 (by omega) (by omega)⟩⟩⟩
theorem G3_near {σ : ZS} {p v : Int} (h : G3 σ) (hv : 0 ≤ v ∧ v ≤ 1) : G3 (zsA σ 0 30 p v) := by
  intro q q0 q1
  obtain ⟨c1, c2, c3, c4, c5, c6, c7, c8⟩ := h q q0 q1
  refine ⟨c1, c2, c3, c4, c5, c6, c7, ?_⟩
  show 0 ≤ zu (zA σ 0 30) p v q ∧ zu (zA σ 0 30) p v q ≤ 1
  by_cases e : q = p
  · rw [e, pu_eq]; exact hv
  · rw [pu_ne e]; exact c8
/-- jumps not yet near -/
def cz (σ : ZS) : Int := psum (fun p => if zA σ 0 30 p = 0 then 1 else 0) (zI σ 0 31).toNat
theorem cz_nn {σ : ZS} : 0 ≤ cz σ := psum_nn _ (fun j _ _ => by show 0 ≤ (if zA σ 0 30 j = 0 then (1 : Int) else 0); split <;> decide)
theorem cz_less {σ : ZS} {p : Int} (h0 : 0 ≤ p) (h1 : p < zI σ 0 31) (hz : zA σ 0 30 p = 0) : cz (zsA σ 0 30 p 1) = cz σ - 1 := by
  unfold cz
  have e : psum (fun q => if zA (zsA σ 0 30 p 1) 0 30 q = 0 then 1 else 0) (zI (zsA σ 0 30 p 1) 0 31).toNat = psum (zu (fun q => if zA σ 0 30 q = 0 then 1 else 0) p ((fun q => if zA σ 0 30 q = 0 then (1 : Int) else 0) p + -1)) (zI σ 0 31).toNat := by
    show psum (fun q => if zu (zA σ 0 30) p 1 q = 0 then 1 else 0) (zI σ 0 31).toNat = _
    refine psum_ext _ (fun j a b => ?_)
    show (if zu (zA σ 0 30) p 1 j = 0 then (1 : Int) else 0) = zu (fun q => if zA σ 0 30 q = 0 then (1 : Int) else 0) p ((if zA σ 0 30 p = 0 then (1 : Int) else 0) + -1) j
    by_cases q : j = p
    · rw [q, pu_eq, pu_eq, if_pos hz]; rfl
    · rw [pu_ne q, pu_ne q]
  rw [e, psum_zu _ h0 (by omega)]
  omega
theorem cz_eq {σ τ : ZS} (h30 : zA τ 0 30 = zA σ 0 30) (h31 : zI τ 0 31 = zI σ 0 31) : cz τ = cz σ := by unfold cz; rw [h30, h31]
theorem s_settle {σ : ZS} {Q : ZS → Prop} (h1 : G1 σ) (h3 : G3 σ) (hO : OFs σ) (hS : Sg σ) (hQ : ∀ τ : ZS, fr [] [16, 29, 30, 36] σ τ → G3 τ → OFs τ → Lyp τ → (∀ j : Int, 0 ≤ j → j < zI σ 0 31 → zA σ 0 24 j = 4 → zA σ 0 13 (zA σ 0 25 j) = 3 → zA τ 0 30 j = 1) → Q τ) : wpX11_settle σ Q := by
  have hS0 := hS
  obtain ⟨hp, hs, hg⟩ := hS
  unfold wpX11_settle wpX11_settle_2
  refine lfp1_ind (fun v _ => (1200 - v).toNat) (fun v τ => (0 ≤ v ∧ v ≤ zI σ 0 31) ∧ fr [] [30] σ τ ∧ G3 τ ∧ (∀ j : Int, 0 ≤ j → j < v → zA σ 0 24 j = 4 → zA σ 0 13 (zA σ 0 25 j) = 3 → zA τ 0 30 j = 1)) ?_ ⟨by omega, fr.rf, h3, fun j a b => by omega⟩
  intro P v τ hI hP
  obtain ⟨hv, hf, h3t, hne⟩ := hI
  have i31 := hf.1 31 (by decide)
  have a24 := hf.2 24 (by decide); have a25 := hf.2 25 (by decide); have a13 := hf.2 13 (by decide)
  have f45 : ∀ s2 : Int, 0 ≤ s2 → s2 ≤ 1 → v < zI σ 0 31 → (zA σ 0 24 v = 4 → zA σ 0 13 (zA σ 0 25 v) = 3 → s2 = 1) → wpX11_settle_45 P v s2 v τ Q := by
    intro s2 z0 z1 hlt hx
    unfold wpX11_settle_45
    refine ⟨by omega, ⟨z0, z1⟩, hP _ _ ⟨by omega, hf.ta (by decide), G3_near h3t ⟨z0, z1⟩, fun j j0 j1 j2 j3 => ?_⟩ (by omega)⟩
    show zu (zA τ 0 30) v s2 j = 1
    by_cases e : j = v
    · rw [e, pu_eq]; rw [e] at j2 j3; exact hx j2 j3
    · rw [pu_ne e]; exact hne j j0 (by omega) j2 j3
  unfold wpbX11_settle_2 wpX11_settle_44
  rw [i31, a24, a25, a13]
  refine ⟨by omega, by omega, fun hall => ?_, fun q => ?_⟩
  rotate_left
  · obtain ⟨q1, q2, q3, q4, q5, q6, q7, q8⟩ := h3 v hv.1 (by omega)
    refine ⟨by omega, by omega, fun n4 => f45 0 (by decide) (by decide) (by omega) (fun e => absurd e n4), fun e4 => ?_⟩
    have hn := q2 (by omega) (by omega)
    have := (h1 (zA σ 0 25 v) hn.1 hn.2).1
    exact ⟨hn, by omega, fun n3 => f45 0 (by decide) (by decide) (by omega) (fun _ e => absurd e n3), fun _ => f45 1 (by decide) (by decide) (by omega) (fun _ _ => rfl)⟩
  -- the rounds
  have hOt : OFs τ := by unfold OFs; rw [hf.2 16 (by decide)]; exact hO
  have hne' : ∀ j : Int, 0 ≤ j → j < zI σ 0 31 → zA σ 0 24 j = 4 → zA σ 0 13 (zA σ 0 25 j) = 3 → zA τ 0 30 j = 1 := fun j j0 j1 => hne j j0 (by omega)
  clear hP hv f45 hne P
  unfold wpX11_settle_54
  refine lfp1_ind (fun w υ => (cz υ).toNat + (if w = 0 then 0 else 1)) (fun w υ => (0 ≤ w ∧ w ≤ 1) ∧ fr [] [16, 29, 30, 36] σ υ ∧ G3 υ ∧ OFs υ ∧ (w = 0 → Lyp υ) ∧ (∀ j : Int, 0 ≤ j → j < zI σ 0 31 → zA σ 0 24 j = 4 → zA σ 0 13 (zA σ 0 25 j) = 3 → zA υ 0 30 j = 1)) ?_ ⟨by decide, hf.up (by decide) (by decide), h3t, hOt, fun q => absurd q (by decide), hne'⟩
  intro P w υ hI hP
  obtain ⟨hw, hfu, h3u, hOu, hL, hnu⟩ := hI
  unfold wpbX11_settle_54
  refine ⟨by omega, fun q => hQ υ hfu h3u hOu (hL q) hnu, fun nw => ?_⟩
  have hSu : Sg υ := by unfold Sg; rw [hfu.1 31 (by decide), hfu.1 34 (by decide), hfu.2 28 (by decide)]; exact hS0
  refine s_lay h3u hOu hSu (fun ω hfw hOw hLw => ?_)
  have h3w : G3 ω := by unfold G3; rw [hfw.2 24 (by decide), hfw.2 25 (by decide), hfw.2 26 (by decide), hfw.2 27 (by decide), hfw.2 28 (by decide), hfw.2 30 (by decide)]; exact h3u
  have hfσw : fr [] [16, 29, 30, 36] σ ω := hfu.tr (hfw.up (by decide) (by decide))
  have hczw : cz ω = cz υ := cz_eq (hfw.2 30 (by decide)) (hfw.1 31 (by decide))
  unfold wpX11_settle_66
  refine lfp2_ind (fun _ k _ => (1200 - k).toNat) (fun m k ψ => (0 ≤ m ∧ m ≤ 1) ∧ (0 ≤ k ∧ k ≤ zI σ 0 31) ∧ fr [] [30] ω ψ ∧ G3 ψ ∧ (m = 0 → Lyp ψ) ∧ cz ψ ≤ cz ω ∧ (¬ m = 0 → cz ψ < cz ω) ∧ (∀ j : Int, 0 ≤ j → j < zI σ 0 31 → zA σ 0 24 j = 4 → zA σ 0 13 (zA σ 0 25 j) = 3 → zA ψ 0 30 j = 1)) ?_ ⟨by decide, by omega, fr.rf, h3w, fun _ => hLw, Int.le_refl _, fun q => absurd rfl q, by rw [hfw.2 30 (by decide)]; exact hnu⟩
  intro P2 m k ψ hI2 hP2
  obtain ⟨hm, hk, hfp, h3p, hLp, hc1, hc2, hnp⟩ := hI2
  have hfσp : fr [] [16, 29, 30, 36] σ ψ := hfσw.tr (hfp.up (by decide) (by decide))
  have j31 : zI ψ 0 31 = zI σ 0 31 := hfσp.1 31 (by decide)
  have b24 : zA ψ 0 24 = zA σ 0 24 := hfσp.2 24 (by decide)
  have hOp : OFs ψ := by unfold OFs; rw [hfp.2 16 (by decide)]; exact hOw
  have nnp := cz_nn (σ := ψ); have nnu := cz_nn (σ := υ)
  unfold wpbX11_settle_66 wpX11_settle_116
  rw [j31, b24]
  refine ⟨by omega, by omega, fun q => ?_, fun q => ?_⟩
  · refine hP _ _ ⟨hm, hfσp, h3p, hOp, hLp, hnp⟩ ?_
    rw [if_neg nw]
    by_cases e : m = 0
    · rw [if_pos e]; omega
    · have := hc2 e
      rw [if_neg e]; omega
  · obtain ⟨q1, q2, q3, q4, q5, q6, q7, q8⟩ := h3 k hk.1 (by omega)
    have q8p := (h3p k hk.1 (by omega)).2.2.2.2.2.2.2
    have same : P2 m (k + 1) ψ := hP2 _ _ _ ⟨hm, by omega, hfp, h3p, hLp, hc1, hc2, hnp⟩ (by omega)
    refine ⟨by omega, by omega, fun _ => same, fun e4 => ⟨by omega, fun _ => same, fun z => ?_⟩⟩
    have hn := q2 (by omega) (by omega)
    have b25 : zA ψ 0 25 = zA σ 0 25 := hfσp.2 25 (by decide)
    have b29 : zA ψ 0 29 = zA ω 0 29 := hfp.2 29 (by decide)
    have w31 : zI ω 0 31 = zI σ 0 31 := hfσw.1 31 (by decide)
    have hat := hLw.2.1 k hk.1 (by omega)
    have hzb := szp_bd h3p hk.1 (by omega)
    have hof := hOp (zA ψ 0 25 k) (by rw [b25]; exact hn.1) (by rw [b25]; exact hn.2)
    refine s_distance h3p (by omega) (by rw [b25]; exact hn) ?_
    refine s_isShort (by rw [b29]; omega) (fun _ _ => ⟨by decide, fun q => absurd q (by decide), fun _ => same⟩) (fun _ => ⟨by decide, fun _ => ?_, fun q => absurd rfl q⟩)
    have hless := cz_less (σ := ψ) (p := k) hk.1 (by omega) z
    refine hP2 _ _ _ ⟨by decide, by omega, hfp.ta (by decide), G3_near h3p (by decide), fun q => absurd q (by decide), by omega, fun _ => by omega, fun j j0 j1 j2 j3 => ?_⟩ (by omega)
    show zu (zA ψ 0 30) k 1 j = 1
    by_cases e : j = k
    · rw [e, pu_eq]
    · rw [pu_ne e]; exact hnp j j0 j1 j2 j3
