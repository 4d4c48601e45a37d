/-! X: the reference settles its jumps: the least closed set -/
theorem Lx.k {σ σ' τ τ' : ZS} {k : Nat} (h : Lx σ τ k) (e34 : zI σ' 0 34 = zI σ 0 34) (e24 : zA σ' 0 24 = zA σ 0 24) (e25 : zA σ' 0 25 = zA σ 0 25) (e28 : zA σ' 0 28 = zA σ 0 28) (e30 : zA σ' 0 30 = zA σ 0 30) (e36 : zA τ' 0 36 = zA τ 0 36) (e29 : zA τ' 0 29 = zA τ 0 29) (e16 : zA τ' 0 16 = zA τ 0 16) : Lx σ' τ' k := by
  unfold Lx; rw [e34, e24, e25, e28, e30, e36, e29, e16]; exact h
theorem x_settle {a b c r : Int → Int} {N : Nat} {σ : ZS} {Q : ZS → Prop} (h1 : G1 σ) (h3 : G3 σ) (hO : OFs σ) (hS : Sg σ) (hX : PX a b c N σ) (hr : ∀ j : Int, 0 ≤ j → j < N → a j = 9 → zA σ 0 13 (c j) = r (c j)) (hj : HJx a b c (gI a b c) r N) (hQ : ∀ τ : ZS, fr [] [16, 29, 30, 36] σ τ → G3 τ → OFs τ → Lyp τ → (∀ j : Int, 0 ≤ j → j < zI σ 0 31 → zA σ 0 24 j = 4 → zA σ 0 13 (zA σ 0 25 j) = 3 → zA τ 0 30 j = 1) → Lx τ τ (zI σ 0 31).toNat → Cl a b c (gI a b c) r (xR a b c τ) N → Le a b c (gI a b c) r (xR a b c τ) N → Q τ) : wpX11_settle σ Q := by
  have hS0 := hS
  obtain ⟨hp, hs, hg⟩ := hS
  unfold wpX11_settle wpX11_settle_2
  refine lfp1_ind (fun v _ => (1200 - v).toNat) (fun v τ => (0 ≤ v ∧ v ≤ zI σ 0 31) ∧ fr [] [30] σ τ ∧ G3 τ ∧ (∀ j : Int, 0 ≤ j → j < v → zA σ 0 24 j = 4 → zA σ 0 13 (zA σ 0 25 j) = 3 → zA τ 0 30 j = 1) ∧ (∀ j : Int, 0 ≤ j → j < v → zA σ 0 24 j = 4 → zA τ 0 30 j ≠ 0 → zA σ 0 13 (zA σ 0 25 j) = 3)) ?_ ⟨by omega, fr.rf, h3, fun j a b => by omega, fun j a b => by omega⟩
  intro P v τ hI hP
  obtain ⟨hv, hf, h3t, hne, hnx⟩ := hI
  have i31 := hf.1 31 (by decide)
  have a24 := hf.2 24 (by decide); have a25 := hf.2 25 (by decide); have a13 := hf.2 13 (by decide)
  have f45 : ∀ s2 : Int, 0 ≤ s2 → s2 ≤ 1 → v < zI σ 0 31 → (zA σ 0 24 v = 4 → zA σ 0 13 (zA σ 0 25 v) = 3 → s2 = 1) → (zA σ 0 24 v = 4 → s2 ≠ 0 → zA σ 0 13 (zA σ 0 25 v) = 3) → wpX11_settle_45 P v s2 v τ Q := by
    intro s2 z0 z1 hlt hx hx2
    unfold wpX11_settle_45
    refine ⟨by omega, ⟨z0, z1⟩, hP _ _ ⟨by omega, hf.ta (by decide), G3_near h3t ⟨z0, z1⟩, fun j j0 j1 j2 j3 => ?_, fun j j0 j1 j2 j3 => ?_⟩ (by omega)⟩
    · show zu (zA τ 0 30) v s2 j = 1
      by_cases e : j = v
      · rw [e, pu_eq]; rw [e] at j2 j3; exact hx j2 j3
      · rw [pu_ne e]; exact hne j j0 (by omega) j2 j3
    · have j3' : zu (zA τ 0 30) v s2 j ≠ 0 := j3
      by_cases e : j = v
      · rw [e, pu_eq] at j3'; rw [e] at j2 ⊢; exact hx2 j2 j3'
      · rw [pu_ne e] at j3'; exact hnx j j0 (by omega) j2 j3'
  unfold wpbX11_settle_2 wpX11_settle_44
  rw [i31, a24, a25, a13]
  refine ⟨by omega, by omega, fun hall => ?_, fun q => ?_⟩
  rotate_left
  · obtain ⟨q1, q2, q3, q4, q5, q6, q7, q8⟩ := h3 v hv.1 (by omega)
    refine ⟨by omega, by omega, fun n4 => f45 0 (by decide) (by decide) (by omega) (fun e => absurd e n4) (fun e => absurd e n4), fun e4 => ?_⟩
    have hn := q2 (by omega) (by omega)
    have := (h1 (zA σ 0 25 v) hn.1 hn.2).1
    exact ⟨hn, by omega, fun n3 => f45 0 (by decide) (by decide) (by omega) (fun _ e => absurd e n3) (fun _ e => absurd rfl e), fun e3 => f45 1 (by decide) (by decide) (by omega) (fun _ _ => rfl) (fun _ _ => e3)⟩
  -- the rounds
  have hOt : OFs τ := by unfold OFs; rw [hf.2 16 (by decide)]; exact hO
  have hne' : ∀ j : Int, 0 ≤ j → j < zI σ 0 31 → zA σ 0 24 j = 4 → zA σ 0 13 (zA σ 0 25 j) = 3 → zA τ 0 30 j = 1 := fun j j0 j1 => hne j j0 (by omega)
  have le0 : Le a b c (gI a b c) r (xR a b c τ) N := by
    intro Y hY j j0 j1 t y0
    have y3 := (hY j j0 j1 t y0).1
    obtain ⟨f1, f2, f3, f4⟩ := hX.fw j j0 j1 (Or.inr (Or.inl t))
    by_cases z : xR a b c τ j = 0
    · exact z
    · have k4 : zA σ 0 24 (PI a b c j) = 4 := by rw [f2, t]; rfl
      have e3 := hnx (PI a b c j) f1.1 (by omega) k4 z
      rw [f3, hr j j0 j1 t] at e3
      exact absurd e3 y3
  clear hP hv f45 hne hnx P
  unfold wpX11_settle_54
  refine lfp1_ind (fun w υ => (cz υ).toNat + (if w = 0 then 0 else 1)) (fun w υ => (0 ≤ w ∧ w ≤ 1) ∧ fr [] [16, 29, 30, 36] σ υ ∧ G3 υ ∧ OFs υ ∧ (w = 0 → Lyp υ ∧ Lx υ υ (zI σ 0 31).toNat ∧ Cl a b c (gI a b c) r (xR a b c υ) N) ∧ (∀ j : Int, 0 ≤ j → j < zI σ 0 31 → zA σ 0 24 j = 4 → zA σ 0 13 (zA σ 0 25 j) = 3 → zA υ 0 30 j = 1) ∧ Le a b c (gI a b c) r (xR a b c υ) N) ?_ ⟨by decide, hf.up (by decide) (by decide), h3t, hOt, fun q => absurd q (by decide), hne', le0⟩
  intro P w υ hI hP
  obtain ⟨hw, hfu, h3u, hOu, hL, hnu, leu⟩ := hI
  unfold wpbX11_settle_54
  refine ⟨by omega, fun q => hQ υ hfu h3u hOu (hL q).1 hnu (hL q).2.1 (hL q).2.2 leu, fun nw => ?_⟩
  have hSu : Sg υ := by unfold Sg; rw [hfu.1 31 (by decide), hfu.1 34 (by decide), hfu.2 28 (by decide)]; exact hS0
  refine x_lay h3u hOu hSu (fun ω hfw hOw hLw lxw => ?_)
  have h3w : G3 ω := by unfold G3; rw [hfw.2 24 (by decide), hfw.2 25 (by decide), hfw.2 26 (by decide), hfw.2 27 (by decide), hfw.2 28 (by decide), hfw.2 30 (by decide)]; exact h3u
  have hfσw : fr [] [16, 29, 30, 36] σ ω := hfu.tr (hfw.up (by decide) (by decide))
  have hczw : cz ω = cz υ := cz_eq (hfw.2 30 (by decide)) (hfw.1 31 (by decide))
  have u31 : zI υ 0 31 = zI σ 0 31 := hfu.1 31 (by decide)
  rw [u31] at lxw
  have lxω : Lx ω ω (zI σ 0 31).toNat := lxw.k (hfw.1 34 (by decide)) (hfw.2 24 (by decide)) (hfw.2 25 (by decide)) (hfw.2 28 (by decide)) (hfw.2 30 (by decide)) rfl rfl rfl
  have pxω : PX a b c N ω := hX.k (hfσw.1 31 (by decide)) (hfσw.2 24 (by decide)) (hfσw.2 25 (by decide)) (hfσw.2 26 (by decide)) (hfσw.2 28 (by decide))
  have xω : xR a b c ω = xR a b c υ := by unfold xR; rw [hfw.2 30 (by decide)]
  have leω : Le a b c (gI a b c) r (xR a b c ω) N := by rw [xω]; exact leu
  have w31 : zI ω 0 31 = zI σ 0 31 := hfσw.1 31 (by decide)
  unfold wpX11_settle_66
  refine lfp2_ind (fun _ k _ => (1200 - k).toNat) (fun m k ψ => (0 ≤ m ∧ m ≤ 1) ∧ (0 ≤ k ∧ k ≤ zI σ 0 31) ∧ fr [] [30] ω ψ ∧ G3 ψ ∧ (m = 0 → Lyp ψ) ∧ cz ψ ≤ cz ω ∧ (¬ m = 0 → cz ψ < cz ω) ∧ (∀ j : Int, 0 ≤ j → j < zI σ 0 31 → zA σ 0 24 j = 4 → zA σ 0 13 (zA σ 0 25 j) = 3 → zA ψ 0 30 j = 1) ∧ (∀ p : Int, k ≤ p → zA ψ 0 30 p = zA ω 0 30 p) ∧ (∀ j : Int, 0 ≤ j → j < N → a j = 9 → xR a b c ψ j ≠ 0 → xR a b c ω j ≠ 0 ∨ r (c j) = 3 ∨ ¬ Sh (dS a b c (gI a b c) (xR a b c ω) N j)) ∧ (m = 0 → zA ψ 0 30 = zA ω 0 30 ∧ ∀ j : Int, 0 ≤ j → j < N → a j = 9 → PI a b c j < k → xR a b c ω j = 0 → Sh (dS a b c (gI a b c) (xR a b c ω) N j))) ?_ ⟨by decide, by omega, fr.rf, h3w, fun _ => hLw, Int.le_refl _, fun q => absurd rfl q, by rw [hfw.2 30 (by decide)]; exact hnu, fun p _ => rfl, fun j _ _ _ q => Or.inl q, fun _ => ⟨rfl, fun j j0 j1 t q => by have := (pxω.fw j j0 j1 (Or.inr (Or.inl t))).1.1; omega⟩⟩
  intro P2 m k ψ hI2 hP2
  obtain ⟨hm, hk, hfp, h3p, hLp, hc1, hc2, hnp, hge, g2, g3⟩ := hI2
  have hfσp : fr [] [16, 29, 30, 36] σ ψ := hfσw.tr (hfp.up (by decide) (by decide))
  have j31 : zI ψ 0 31 = zI σ 0 31 := hfσp.1 31 (by decide)
  have b24 : zA ψ 0 24 = zA σ 0 24 := hfσp.2 24 (by decide)
  have hOp : OFs ψ := by unfold OFs; rw [hfp.2 16 (by decide)]; exact hOw
  have nnp := cz_nn (σ := ψ); have nnu := cz_nn (σ := υ)
  -- where a jump is short, its name is no stranger's
  have no3 : ∀ j : Int, 0 ≤ j → j < N → a j = 9 → xR a b c ψ j = 0 → r (c j) ≠ 3 := by
    intro j j0 j1 t x0 e3
    obtain ⟨f1, f2, f3, f4⟩ := hX.fw j j0 j1 (Or.inr (Or.inl t))
    have := hnp (PI a b c j) f1.1 f1.2 (by rw [f2, t]; rfl) (by rw [f3, hr j j0 j1 t]; exact e3)
    have x0' : zA ψ 0 30 (PI a b c j) = 0 := x0
    omega
  unfold wpbX11_settle_66 wpX11_settle_116
  rw [j31, b24]
  refine ⟨by omega, by omega, fun q => ?_, fun q => ?_⟩
  · refine hP _ _ ⟨hm, hfσp, h3p, hOp, fun m0 => ⟨hLp m0, ?_, ?_⟩, hnp, fun Y hY j j0 j1 t y0 => ?_⟩ ?_
    · exact lxω.k (hfp.1 34 (by decide)) (hfp.2 24 (by decide)) (hfp.2 25 (by decide)) (hfp.2 28 (by decide)) (g3 m0).1 (hfp.2 36 (by decide)) (hfp.2 29 (by decide)) (hfp.2 16 (by decide))
    · have xe : xR a b c ψ = xR a b c ω := by unfold xR; rw [(g3 m0).1]
      intro j j0 j1 t x0
      have n3 := no3 j j0 j1 t x0
      rw [xe] at x0 ⊢
      exact ⟨n3, (g3 m0).2 j j0 j1 t (by have := (hX.fw j j0 j1 (Or.inr (Or.inl t))).1.2; omega) x0⟩
    · by_cases z : xR a b c ψ j = 0
      · exact z
      · exfalso
        rcases g2 j j0 j1 t z with y | y
        · exact y (leω Y hY j j0 j1 t y0)
        · exact leω.ad hj.2.2 j0 j1 t (hj.j j0 j1 t) y Y hY y0
    · rw [if_neg nw]
      by_cases e : m = 0
      · rw [if_pos e]; omega
      · have := hc2 e
        rw [if_neg e]; omega
  · obtain ⟨q1, q2, q3, q4, q5, q6, q7, q8⟩ := h3 k hk.1 (by omega)
    have q8p := (h3p k hk.1 (by omega)).2.2.2.2.2.2.2
    have same : (m = 0 → ∀ j : Int, 0 ≤ j → j < N → a j = 9 → PI a b c j = k → xR a b c ω j = 0 → Sh (dS a b c (gI a b c) (xR a b c ω) N j)) → P2 m (k + 1) ψ := fun hh => hP2 _ _ _ ⟨hm, by omega, hfp, h3p, hLp, hc1, hc2, hnp, fun p hp' => hge p (by omega), g2, fun m0 => ⟨(g3 m0).1, fun j j0 j1 t pj x0 => by
      by_cases e : PI a b c j = k
      · exact hh m0 j j0 j1 t e x0
      · exact (g3 m0).2 j j0 j1 t (by omega) x0⟩⟩ (by omega)
    refine ⟨by omega, by omega, fun n4 => same (fun _ j j0 j1 t e x0 => ?_), fun e4 => ⟨by omega, fun nz => same (fun _ j j0 j1 t e x0 => ?_), fun z => ?_⟩⟩
    · exfalso
      obtain ⟨f1, f2, f3, f4⟩ := hX.fw j j0 j1 (Or.inr (Or.inl t))
      rw [e, t] at f2
      exact n4 f2
    · exfalso
      have x0' : zA ω 0 30 (PI a b c j) = 0 := x0
      rw [e, ← hge k (Int.le_refl _)] at x0'
      exact nz x0'
    have hn := q2 (by omega) (by omega)
    have b25 : zA ψ 0 25 = zA σ 0 25 := hfσp.2 25 (by decide)
    have b29 : zA ψ 0 29 = zA ω 0 29 := hfp.2 29 (by decide)
    have b16 : zA ψ 0 16 = zA ω 0 16 := hfp.2 16 (by decide)
    have hat := hLw.2.1 k hk.1 (by omega)
    have hzb := szp_bd h3p hk.1 (by omega)
    have hof := hOp (zA ψ 0 25 k) (by rw [b25]; exact hn.1) (by rw [b25]; exact hn.2)
    obtain ⟨j, j0, j1, jt, jk⟩ := hX.bw k hk.1 (by omega) (Or.inl e4)
    have t9 : a j = 9 := by omega
    obtain ⟨f1, f2, f3, f4⟩ := hX.fw j j0 j1 (Or.inr (Or.inl t9))
    have x0 : xR a b c ψ j = 0 := by unfold xR; rw [← jk]; exact z
    have n3 := no3 j j0 j1 t9 x0
    have hh : 0 ≤ lI a c (c j) N ∧ gI a b c (lI a c (c j) N) = gI a b c j := by
      rcases hj.j j0 j1 t9 with y | y
      · exact absurd y n3
      · exact y
    have szk : szp ψ k = szp ω k := by
      unfold szp
      rw [hfp.2 24 (by decide), hfp.2 25 (by decide), hge k (Int.le_refl _)]
    have dd := Lx.d (r := r) pxω (by rw [w31]; exact lxω) j0 j1 (Or.inl t9) hh
    rw [← jk] at dd f3
    refine s_distance h3p (by omega) (by rw [b25]; exact hn) ?_
    have de : zA ψ 0 16 (zA ψ 0 25 k) - zA ψ 0 29 k - szp ψ k = dS a b c (gI a b c) (xR a b c ω) N j := by
      rw [b25, f3, b16, b29, szk]; exact dd
    have uq : ∀ i : Int, 0 ≤ i → i < N → a i = 9 → PI a b c i = k → dS a b c (gI a b c) (xR a b c ω) N i = dS a b c (gI a b c) (xR a b c ω) N j := by
      intro i i0 i1 ti pi
      obtain ⟨y1, y2, y3, y4⟩ := hX.fw i i0 i1 (Or.inr (Or.inl ti))
      have n3i := no3 i i0 i1 ti (by unfold xR; rw [pi]; exact z)
      have hhi : 0 ≤ lI a c (c i) N ∧ gI a b c (lI a c (c i) N) = gI a b c i := by
        rcases hj.j i0 i1 ti with y | y
        · exact absurd y n3i
        · exact y
      have di := Lx.d (r := r) pxω (by rw [w31]; exact lxω) i0 i1 (Or.inl ti) hhi
      rw [pi] at di y3
      rw [← di, ← dd, ← f3, y3]
    rw [← de] at uq
    refine s_isShort (by rw [b29]; omega) (fun s1 s2 => ⟨by decide, fun q => absurd q (by decide), fun _ => same (fun _ i i0 i1 ti pi _ => by rw [uq i i0 i1 ti pi]; exact ⟨s1, s2⟩)⟩) (fun ns => ⟨by decide, fun _ => ?_, fun q => absurd rfl q⟩)
    have hless := cz_less (σ := ψ) (p := k) hk.1 (by omega) z
    refine hP2 _ _ _ ⟨by decide, by omega, hfp.ta (by decide), G3_near h3p (by decide), fun q => absurd q (by decide), by omega, fun _ => by omega, fun i i0 i1 i2 i3 => ?_, fun p hp' => ?_, fun i i0 i1 ti xi => ?_, fun q => absurd q (by decide)⟩ (by omega)
    · show zu (zA ψ 0 30) k 1 i = 1
      by_cases e : i = k
      · rw [e, pu_eq]
      · rw [pu_ne e]; exact hnp i i0 i1 i2 i3
    · show zu (zA ψ 0 30) k 1 p = zA ω 0 30 p
      rw [pu_ne (by omega)]; exact hge p (by omega)
    · by_cases e : PI a b c i = k
      · refine Or.inr (Or.inr ?_)
        rw [uq i i0 i1 ti e]
        unfold Sh
        omega
      · have xi' : zu (zA ψ 0 30) k 1 (PI a b c i) ≠ 0 := xi
        rw [pu_ne e] at xi'
        exact g2 i i0 i1 ti xi'
