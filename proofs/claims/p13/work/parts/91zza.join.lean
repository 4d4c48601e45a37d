/-! X: the reference's assemble tells the module that it writes -/
/-- what comes of sizes, told with its items -/
def SDp (a b c r : Int → Int) (N : Nat) (X : Int → Int) (cd w : Int) (τ : ZS) : Prop := PX a b c N τ ∧ (∀ j : Int, 0 ≤ j → j < N → 7 ≤ a j → zA τ 0 13 (c j) = r (c j)) ∧ HJx a b c (gI a b c) r N ∧ Cl a b c (gI a b c) r X N ∧ Le a b c (gI a b c) r X N ∧ ((∀ j : Int, 0 ≤ j → j < N → 7 ≤ a j → r (c j) = 2 → 0 ≤ lI a c (c j) N) ∧ (∀ j : Int, 0 ≤ j → j < N → a j = 11 → r (c j) = 3 ∨ (0 ≤ lI a c (c j) N ∧ gI a b c (lI a c (c j) N) = gI a b c j ∧ 0 ≤ gI a b c j)) ∧ (∀ j : Int, 0 ≤ j → j < N → a j = 12 → b j = 0)) ∧ ((cd = 4 ∧ 400 < psum (fun s => oS a b (gI a b c) X s N) (zI τ 0 34).toNat) ∨ (psum (fun s => oS a b (gI a b c) X s N) (zI τ 0 34).toNat ≤ 400 ∧ ((cd = 5 ∧ ∃ j : Int, 0 ≤ j ∧ j < N ∧ a j = 10 ∧ ¬ Sh (dS a b c (gI a b c) X N j)) ∨ (cd = 0 ∧ (∀ j : Int, 0 ≤ j → j < N → a j = 10 → Sh (dS a b c (gI a b c) X N j)) ∧ w = psum (fun s => oS a b (gI a b c) X s N) (zI τ 0 34).toNat))))
/-- module m, as it is written from what was parsed (τ) -/
def SUC (a b c r : Int → Int) (N : Nat) (X : Int → Int) (τ : ZS) (m : Int) (υ : ZS) : Prop := zA υ 0 44 m = zI τ 0 34 ∧ (∀ s : Int, 0 ≤ s → s < zI τ 0 34 → zA υ 0 47 (24 * m + s) = stS a b (gI a b c) X N s ∧ zA υ 0 48 (24 * m + s) = oS a b (gI a b c) X s N ∧ zA υ 0 46 (24 * m + s) = zA τ 0 15 (zA τ 0 35 s) ∧ zA υ 0 45 (24 * m + s) = zA τ 0 12 (zA τ 0 35 s)) ∧ MQr τ m υ (mK a b c (gI a b c) X r N N) ∧ (∀ k : Int, 0 ≤ k → k < zA υ 0 56 m → ∃ u : Int, (0 ≤ u ∧ u < zI τ 0 23) ∧ zA τ 0 19 u = 0 ∧ zA υ 0 57 (80 * m + k) = zA τ 0 12 (zA τ 0 20 u) ∧ zA υ 0 58 (80 * m + k) = zA τ 0 14 (zA τ 0 20 u) ∧ (0 ≤ lI a c (zA τ 0 20 u) N → zA υ 0 59 (80 * m + k) = loS a b c (gI a b c) X N (zA τ 0 20 u))) ∧ (∀ u : Int, 0 ≤ u → u < zI τ 0 23 → zA τ 0 19 u = 0 → ∃ k : Int, (0 ≤ k ∧ k < zA υ 0 56 m) ∧ zA υ 0 57 (80 * m + k) = zA τ 0 12 (zA τ 0 20 u) ∧ zA υ 0 58 (80 * m + k) = zA τ 0 14 (zA τ 0 20 u) ∧ (0 ≤ lI a c (zA τ 0 20 u) N → zA υ 0 59 (80 * m + k) = loS a b c (gI a b c) X N (zA τ 0 20 u)))
theorem OY.pre {m : Int} {σ γ τ : ZS} (e : ∀ f : Nat, f ∈ WA → zA γ 0 f = zA σ 0 f) (h : OY m γ τ) : OY m σ τ := by
  unfold OY OU OV at h ⊢
  rw [e 43 (by decide), e 44 (by decide), e 50 (by decide), e 56 (by decide), e 46 (by decide), e 47 (by decide), e 48 (by decide), e 51 (by decide), e 52 (by decide), e 53 (by decide), e 54 (by decide), e 58 (by decide), e 59 (by decide), e 45 (by decide), e 49 (by decide), e 55 (by decide), e 57 (by decide)] at h
  exact h
theorem x_assemble5 {σ : ZS} {a cd w : Int} {Q : Int → ZS → Prop} {a' b' c' r' X : Int → Int} {N : Nat} (hR : RA σ) (hA : 0 ≤ a ∧ a ≤ 2) (PO : Int → ZS → Prop) (hparse : ∀ Qp : Int → ZS → Prop, (∀ (r : Int) (τ : ZS), GG τ → fr PF PA (zsI σ 0 0 0) τ → (r = 0 ∨ r = 1) → PO r τ → Qp r τ) → wpX11_parse (zsI σ 0 0 0) Qp) (hD0 : ∀ τ : ZS, PO 0 τ → cd = 2) (hD1 : ∀ τ : ZS, PO 1 τ → GG τ → (cd = 3 ∧ ¬ JW τ) ∨ (JW τ ∧ SDp a' b' c' r' N X cd w τ)) (hQ : ∀ (r : Int) (τ : ZS), RA τ → fr AF AA σ τ → (0 ≤ r ∧ r ≤ 400) → zI τ 0 2 = 0 → zI τ 0 0 = cd → (cd = 0 → r = w) → ((cd ≠ 0 → ∀ f : Nat, f ∈ WA → zA τ 0 f = zA σ 0 f) ∧ (cd = 0 → zA τ 0 43 = zu (zA σ 0 43) a 1 ∧ OY a σ τ ∧ ∃ υ : ZS, PO 1 υ ∧ SUC a' b' c' r' N X υ a τ)) → Q r τ) : wpX11_assemble a σ Q := by
  unfold wpX11_assemble
  refine ⟨by omega, fun n => absurd n (by omega), fun nn => ⟨fun le => ?_, fun nle => absurd hA.2 nle⟩⟩
  obtain ⟨hP, hO, hG, hM⟩ := hR
  have hPz : PA0 (zsI σ 0 0 0) := hP
  refine hparse _ (fun r τ g hf hr po => ?_)
  have hf1 : fr AF AA σ τ := (show fr AF AA σ (zsI σ 0 0 0) from fr.i (by decide)).tr (hf.up (by decide) (by decide))
  have hw1 : ∀ j : Nat, j ∈ WA → zA τ 0 j = zA σ 0 j := fun j hj => hf.2 j (fun q => absurd hj ((show ∀ k ∈ PA, k ∉ WA by decide) j q))
  have hO1 : OFs τ := hO.up (hf.2 16 (by decide))
  have hG1 : GM τ := hG.up hw1
  have hM1 : ∀ n : Int, 0 ≤ n → n ≤ 2 → MI τ n := fun n a b => (hM n a b).up hw1
  obtain ⟨pT, pL, p1, p2, p3, p4⟩ := g.pa0
  have hP1 : PA0 (zsI τ 0 2 0) := ⟨⟨(show (0 : Int) ≤ 0 ∧ (0 : Int) ≤ 480 from ⟨by decide, by decide⟩), fun j j0 j1 => absurd j1 (by show ¬ j < 0; omega), pT.2.2⟩, pL, p1, p2, p3, p4⟩
  have hAI := g.ai
  refine ⟨by omega, fun n0 => ?_, fun r0 => hQ 0 _ ⟨hP1, hO1, hG1, hM1⟩ ((hf1.ti (by decide)).ti (by decide)) (by decide) rfl (by rw [r0] at po; exact (hD0 τ po).symm) (fun q => by rw [r0] at po; have := hD0 τ po; omega) ⟨fun _ f hf' => hw1 f hf', fun q => by rw [r0] at po; have := hD0 τ po; omega⟩⟩
  have po1 : PO 1 τ := by rw [show r = 1 by omega] at po; exact po
  have d1 := hD1 τ po1 g
  obtain ⟨α, hα⟩ : ∃ α, α = zsI τ 0 2 0 := ⟨_, rfl⟩
  have hfα : fr AF AA σ α := by rw [hα]; exact hf1.ti (by decide)
  have hOα : OFs α := by rw [hα]; exact hO1
  have hGα : GM α := by rw [hα]; exact hG1
  have hMα : ∀ n : Int, 0 ≤ n → n ≤ 2 → MI α n := by rw [hα]; exact hM1
  have hzα : zI α 0 2 = 0 := by rw [hα]; rfl
  rw [← hα] at hP1 hAI
  rw [← hα]
  have jwα : JW α ↔ JW τ := by rw [hα]; exact Iff.rfl
  have yα : ∀ (f : Nat), zA α 0 f = zA τ 0 f := by rw [hα]; exact fun _ => rfl
  have iα : ∀ (f : Nat), f ≠ 2 → zI α 0 f = zI τ 0 f := by rw [hα]; exact fun f hf' => zI_f hf'
  refine x_judge hAI (fun β hB hfβ hj => ?_)
  have iβ : ∀ f : Nat, f ≠ 18 → zI β 0 f = zI α 0 f := fun f hf' => hfβ.1 f (by simpa using hf')
  have aβ : ∀ j : Nat, zA β 0 j = zA α 0 j := fun j => hfβ.2 j (by simp)
  have hBf : fr AF AA σ β := hfα.tr (hfβ.up (by decide) (by decide))
  have h3β : G3 β := hB.2.2.2.2.1
  have hPβ : PA0 β := hP1.up (fun f hf' => iβ f (fun e => hf' (by rw [e]; decide))) (fun j _ => aβ j) h3β
  have hOβ : OFs β := hOα.up (aβ 16)
  have hGβ : GM β := hGα.up (fun j _ => aβ j)
  have hMβ : ∀ n : Int, 0 ≤ n → n ≤ 2 → MI β n := fun n x y => (hMα n x y).up (fun j _ => aβ j)
  have h2β : zI β 0 2 = 0 := by rw [iβ 2 (by decide)]; exact hzα
  obtain ⟨⟨c17, c23, c31, c34, c18, ccn⟩, cw, g1, g2, g3, g4, g5, g6⟩ := hB
  refine ⟨by omega, fun neg => ?_, fun nn' => ?_⟩
  rotate_left
  · have c3 : cd = 3 := by
      rcases d1 with ⟨q, -⟩ | ⟨q, -⟩
      · exact q
      · exact absurd (hj.mpr (jwα.mpr q)) nn'
    exact hQ 0 _ ⟨hPβ, hOβ, hGβ, hMβ⟩ (((hBf.ti (by decide)).ti (by decide)).ti (by decide)) (by decide) h2β c3.symm (fun q => by omega) ⟨fun _ f hf' => (aβ f).trans ((yα f).trans (hw1 f hf')), fun q => by omega⟩
  have sd : SDp a' b' c' r' N X cd w τ := by
    rcases d1 with ⟨-, q⟩ | ⟨-, q⟩
    · exact absurd (jwα.mp (hj.mp neg)) q
    · exact q
  obtain ⟨px, hrr0, hjx, cl, le, ⟨hlab, hcc, h12⟩, out⟩ := sd
  have hrr : ∀ j : Int, 0 ≤ j → j < N → a' j = 9 → zA τ 0 13 (c' j) = r' (c' j) := fun j j0 j1 t => hrr0 j j0 j1 (by omega)
  have hjd : ∀ u : Int, 0 ≤ u → u < zI β 0 23 → Jd β u := by
    intro u u0 u1
    rw [iβ 23 (by decide)] at u1
    obtain ⟨z1, z2, z3, z4, z5⟩ := (hj.mp neg).2 u u0 u1
    unfold Jd
    rw [aβ 19, aβ 20, aβ 13]
    exact ⟨z1, z2, z5⟩
  have pxβ : PX a' b' c' N β := px.k ((iβ 31 (by decide)).trans (iα 31 (by decide))) ((aβ 24).trans (yα 24)) ((aβ 25).trans (yα 25)) ((aβ 26).trans (yα 26)) ((aβ 28).trans (yα 28))
  have hcw := cw neg
  have h6 := g6 neg
  refine x_settle g1 g3 hOβ ⟨c31, c34, h6.1⟩ pxβ (fun j j0 j1 t => by rw [aβ 13, yα 13]; exact hrr j j0 j1 t) hjx (fun γ hfγ h3γ hOγ hLγ hne lxγ clγ leγ => ?_)
  have pxγ : PX a' b' c' N γ := pxβ.k (hfγ.1 31 (by simp)) (hfγ.2 24 (by decide)) (hfγ.2 25 (by decide)) (hfγ.2 26 (by decide)) (hfγ.2 28 (by decide))
  have xeq := Cl.u clγ leγ cl le
  have osq : ∀ (s : Int) (k : Nat), k ≤ N → oS a' b' (gI a' b' c') (xR a' b' c' γ) s k = oS a' b' (gI a' b' c') X s k := fun s k hk => oS_cg k (fun j hj' t => xeq j (by omega) t)
  have dsq : ∀ j : Int, 0 ≤ j → j < N → dS a' b' c' (gI a' b' c') (xR a' b' c' γ) N j = dS a' b' c' (gI a' b' c') X N j := by
    intro j j0 j1
    have lb := lI_bd (a := a') (c := c') (n := c' j) N
    unfold dS
    rw [osq _ _ (by omega), osq _ _ (by omega), sI_cg (X := xR a' b' c' γ) (Y := X) (fun t => by have := xeq j.toNat (by omega); rw [show ((j.toNat : Nat) : Int) = j by omega] at this; exact this t)]
  have s36 : ∀ s : Int, 0 ≤ s → s < zI γ 0 34 → zA γ 0 36 s = oS a' b' (gI a' b' c') X s N := by
    intro s s0 s1
    have e1 := lxγ.1 s s0 s1
    have e2 := pxγ.oP s N (Nat.le_refl _)
    rw [show zI β 0 31 = PI a' b' c' N from pxβ.np] at e1
    rw [e1, e2, osq s N (Nat.le_refl _)]
  have iγ : ∀ f : Nat, zI γ 0 f = zI β 0 f := fun f => hfγ.1 f (by simp)
  have aγ : ∀ j : Nat, j ∉ [16, 29, 30, 36] → zA γ 0 j = zA β 0 j := hfγ.2
  have hγf : fr AF AA σ γ := hBf.tr (hfγ.up (by decide) (by decide))
  have hPγ : PA0 γ := hPβ.up (fun f _ => iγ f) (fun j hj' => aγ j (fun q => hj' ((show ∀ k ∈ [16, 29, 30, 36], k ∈ HA by decide) j q))) h3γ
  have hwγ : ∀ j : Nat, j ∈ WA → zA γ 0 j = zA β 0 j := fun j hj' => aγ j (fun q => absurd hj' ((show ∀ k ∈ [16, 29, 30, 36], k ∉ WA by decide) j q))
  have hGγ : GM γ := hGβ.up hwγ
  have hMγ : ∀ n : Int, 0 ≤ n → n ≤ 2 → MI γ n := fun n x y => (hMβ n x y).up hwγ
  have h2γ : zI γ 0 2 = 0 := by rw [iγ]; exact h2β
  have h24 : zI β 0 34 ≤ 24 := by
    have := pigeon (f := zA β 0 35) (g := zA β 0 14) (n := zI β 0 34) (k := zI β 0 17) c34.1 c17.1 (fun s s0 s1 => ⟨⟨(g4.1 s s0 (by omega)).1, (g4.2.1 s s0 s1).1⟩, (g4.2.1 s s0 s1).2.2.1⟩)
    omega
  have hWC : psum (zA γ 0 36) (zI γ 0 34).toNat ≤ 400 → WC γ := by
    intro hs
    unfold WC G1 G2 Sg
    rw [iγ 31, iγ 34, iγ 23] at *
    rw [aγ 12 (by decide), aγ 13 (by decide), aγ 14 (by decide), aγ 15 (by decide), aγ 19 (by decide), aγ 20 (by decide), aγ 21 (by decide), aγ 22 (by decide), aγ 24 (by decide), aγ 25 (by decide), aγ 28 (by decide), aγ 35 (by decide)]
    refine ⟨g1, g2, h3γ, hOγ, hLγ, ⟨c31, c34, h6.1⟩, h24, fun s s0 s1 => ⟨g4.1 s s0 (by omega), (g4.2.1 s s0 s1).2.2.2⟩, hs, hne, fun p p0 p1 hk => ?_, fun u u0 u1 hz => ?_, c23, ccn⟩
    · obtain ⟨u, u0, u1, ue, uk⟩ := g5.2 p p0 p1 hk
      have hu := hjd u u0 u1
      have hn := (g2 u u0 (by omega)).2.1
      have hn17 := g5.1 u u0 u1
      rw [← ue]
      have hg := g1 _ hn.1 hn.2
      have hg4 := g4.2.2 _ hn.1 hn17
      refine ⟨hg.2.1.1, fun n3 => ?_⟩
      have hs0 : zA β 0 13 (zA β 0 20 u) = 1 ∨ zA β 0 13 (zA β 0 20 u) = 2 := by
        rcases uk with k | k
        · have := hu.2.1 k; omega
        · have := hu.2.2 k; omega
      rcases hs0 with k | k
      · exact (hg4.1 k).2
      · rcases hg4.2 k with e | e
        · omega
        · exact e
    · have hu := (hjd u u0 u1).1 hz
      have hn := (g2 u u0 (by omega)).2.1
      have hn17 := g5.1 u u0 u1
      have hg4 := (g4.2.2 _ hn.1 hn17).2 hu
      have hg6 := h6.2 _ hn.1 hn17 hu
      omega
  have i31 := iγ 31
  have i34 := iγ 34
  have hszn : ∀ j : Int, 0 ≤ j → j < ((zI γ 0 34).toNat : Int) → 0 ≤ zA γ 0 36 j := fun j x y => (hLγ.1 j x (by omega)).1
  have hps : ∀ s : Int, 0 ≤ s → psum (zA γ 0 36) (s + 1).toNat = psum (zA γ 0 36) s.toNat + zA γ 0 36 s := by
    intro s s0
    rw [show (s + 1).toNat = s.toNat + 1 by omega]
    show psum (zA γ 0 36) s.toNat + zA γ 0 36 ((s.toNat : Nat) : Int) = _
    rw [show ((s.toNat : Nat) : Int) = s by omega]
  have tell : ∀ (x y z : Int), z = cd → z ≠ 0 → Q 0 (zsI (zsI (zsI γ 0 3 x) 0 4 y) 0 0 z) := fun x y z hz hz0 => hQ 0 _ ⟨hPγ, hOγ, hGγ, hMγ⟩ (((hγf.ti (by decide)).ti (by decide)).ti (by decide)) (by decide) h2γ hz (fun q => by omega) ⟨fun _ f hf' => (hwγ f hf').trans ((aβ f).trans ((yα f).trans (hw1 f hf'))), fun q => by omega⟩
  have e34 : zI γ 0 34 = zI τ 0 34 := (iγ 34).trans ((iβ 34 (by decide)).trans (iα 34 (by decide)))
  have sume : psum (zA γ 0 36) (zI γ 0 34).toNat = psum (fun s => oS a' b' (gI a' b' c') X s N) (zI τ 0 34).toNat := by
    rw [e34]
    exact psum_ext _ (fun s s0 s1 => s36 s s0 (by omega))
  have f114 : ∀ v3 : Int, (0 ≤ v3 ∧ v3 ≤ 400) → psum (zA γ 0 36) (zI γ 0 34).toNat ≤ 400 → v3 = psum (zA γ 0 36) (zI γ 0 34).toNat → wpX11_assemble_114 a v3 0 γ Q := by
    intro v3 hv3 hs ev3
    have out2 : (cd = 5 ∧ ∃ j : Int, 0 ≤ j ∧ j < N ∧ a' j = 10 ∧ ¬ Sh (dS a' b' c' (gI a' b' c') X N j)) ∨ (cd = 0 ∧ (∀ j : Int, 0 ≤ j → j < N → a' j = 10 → Sh (dS a' b' c' (gI a' b' c') X N j)) ∧ w = psum (fun s => oS a' b' (gI a' b' c') X s N) (zI τ 0 34).toNat) := by
      rcases out with ⟨-, q⟩ | ⟨-, q⟩
      · rw [← sume] at q; omega
      · exact q
    have hW := hWC hs
    unfold wpX11_assemble_114
    refine lfp1_ind (fun v _ => (zI γ 0 31 - v).toNat) (fun v τ => τ = γ ∧ (0 ≤ v ∧ v ≤ zI γ 0 31) ∧ ∀ p : Int, 0 ≤ p → p < v → zA γ 0 24 p = 5 → Sh (zA γ 0 16 (zA γ 0 25 p) - zA γ 0 29 p - szp γ p)) ?_ ⟨rfl, by omega, fun p p0 p1 => by omega⟩
    intro P v τ' ⟨he, hv, hsh⟩ ih
    rw [he]
    show wpbX11_assemble_114 P a v3 v γ Q
    unfold wpbX11_assemble_114 wpX11_assemble_160
    have next : v < zI γ 0 31 → (zA γ 0 24 v = 5 → Sh (zA γ 0 16 (zA γ 0 25 v) - zA γ 0 29 v - szp γ v)) → P (v + 1) γ := fun q hh => ih (v + 1) γ ⟨rfl, by omega, fun p p0 p1 t => by
      by_cases e : p = v
      · rw [e] at t ⊢; exact hh t
      · exact hsh p p0 (by omega) t⟩ (by show (zI γ 0 31 - (v + 1)).toNat < (zI γ 0 31 - v).toNat; omega)
    -- a branch's distance, by pieces and by items
    have dd : ∀ j : Int, 0 ≤ j → j < N → a' j = 10 → zA γ 0 16 (zA γ 0 25 (PI a' b' c' j)) - zA γ 0 29 (PI a' b' c' j) - szp γ (PI a' b' c' j) = dS a' b' c' (gI a' b' c') X N j := by
      intro j j0 j1 t
      obtain ⟨f1, f2, f3, f4⟩ := pxγ.fw j j0 j1 (Or.inr (Or.inr t))
      have hh := hjx.2.1 j j0 j1 t
      have d := Lx.d (r := r') pxγ (by rw [iγ 31]; exact lxγ) j0 j1 (Or.inr t) ⟨hh.1, hh.2.1⟩
      rw [f3, d, dsq j j0 j1]
    refine ⟨by omega, by omega, fun e => ?_, fun ne => ?_⟩
    · refine y_write hW hGγ hA (fun υ hfu hOu hGu hMu h43 e44 rg mq py => ?_)
      have hPu : PA0 υ := by
        refine hPγ.up (fun f _ => hfu.1 f (by simp)) (fun j hj' => hfu.2 j (fun q => hj' ((show ∀ k ∈ WA, k ∈ HA by decide) j q))) ?_
        unfold G3; rw [hfu.2 24 (by decide), hfu.2 25 (by decide), hfu.2 26 (by decide), hfu.2 27 (by decide), hfu.2 28 (by decide), hfu.2 30 (by decide)]; exact h3γ
      have hOu' : OFs υ := hOγ.up (hfu.2 16 (by decide))
      have all : ∀ j : Int, 0 ≤ j → j < N → a' j = 10 → Sh (dS a' b' c' (gI a' b' c') X N j) := by
        intro j j0 j1 t
        obtain ⟨f1, f2, f3, f4⟩ := pxγ.fw j j0 j1 (Or.inr (Or.inr t))
        rw [← dd j j0 j1 t]
        exact hsh _ f1.1 (by omega) (by rw [f2, t]; rfl)
      have o0 : cd = 0 ∧ w = psum (fun s => oS a' b' (gI a' b' c') X s N) (zI τ 0 34).toNat := by
        rcases out2 with ⟨-, j, j0, j1, t, ns⟩ | ⟨q, -, q'⟩
        · exact absurd (all j j0 j1 t) ns
        · exact ⟨q, q'⟩
      refine hQ _ _ ⟨hPu, hOu', hGu, fun n n0 n1 => ?_⟩ (((hγf.tr (hfu.up (by decide) (by decide))).ti (by decide)).ti (by decide)) hv3 ?_ ?_ (fun _ => by rw [ev3, sume, o0.2]) ⟨fun q => absurd o0.1 q, fun _ => ⟨?_, ?_, τ, po1, ?_⟩⟩
      · show MI υ n
        by_cases e : n = a
        · rw [e]; exact hMu
        · exact (hMγ n n0 n1).ou hOu.1 hA ⟨n0, n1⟩ e
      · show zI υ 0 2 = 0
        rw [hfu.1 2 (by simp)]; exact h2γ
      · show zI υ 0 0 = cd
        rw [hfu.1 0 (by simp), iγ 0, iβ 0 (by decide), iα 0 (by decide), hf.1 0 (by decide), o0.1]
        exact zI_s
      · show zA υ 0 43 = _
        rw [h43, hwγ 43 (by decide), aβ 43, yα 43, hw1 43 (by decide)]
      · have w0 : OY a σ υ := OY.pre (fun f hf' => (hwγ f hf').trans ((aβ f).trans ((yα f).trans (hw1 f hf')))) hOu
        exact w0
      · have ar : ∀ f : Nat, f ∉ [16, 29, 30, 36] → zA γ 0 f = zA τ 0 f := fun f hf' => (aγ f hf').trans ((aβ f).trans (yα f))
        have i23 : zI γ 0 23 = zI τ 0 23 := (iγ 23).trans ((iβ 23 (by decide)).trans (iα 23 (by decide)))
        have h36' : ∀ s : Int, 0 ≤ s → s < zI γ 0 34 → zA γ 0 36 s = oS a' b' (gI a' b' c') X s N := s36
        have lxx : Lx γ γ (zI γ 0 31).toNat := by rw [iγ 31]; exact lxγ
        have xq : ∀ j : Nat, j < N → a' j = 9 → (xR a' b' c' γ j = 0 ↔ X j = 0) := fun j hj' t => xeq j hj' t
        have qq := qm (r := r') (X := X) pxγ lxx xq (fun j j0 j1 t => by rw [ar 13 (by decide)]; exact hrr0 j j0 j1 t) h36' (hW.2.2.2.2.2.1).2.2 hlab hjx hcc (fun j j0 j1 t x0 => (cl j j0 j1 t x0).1) h12 N (Nat.le_refl _)
        rw [← pxγ.np] at qq
        rw [qq] at mq
        have st : ∀ s : Int, 0 ≤ s → s ≤ zI γ 0 34 → psum (zA γ 0 36) s.toNat = stS a' b' (gI a' b' c') X N s := fun s s0 s1 => psum_ext _ (fun j j0 j1 => h36' j j0 (by omega))
        have lo : ∀ n : Int, 0 ≤ lI a' c' n N → zA γ 0 16 n = loS a' b' c' (gI a' b' c') X N n := fun n h => pxγ.lab lxx xq h
        unfold PY at py
        unfold MQr at mq
        rw [ar 19 (by decide), ar 20 (by decide), ar 12 (by decide), ar 14 (by decide), i23] at py
        rw [ar 12 (by decide), ar 13 (by decide), ar 14 (by decide)] at mq
        refine ⟨by show zA υ 0 44 a = _; rw [e44, e34], fun s s0 s1 => ?_, mq, fun k k0 k1 => ?_, fun u u0 u1 uz => ?_⟩
        · have s1' : s < zI γ 0 34 := by omega
          obtain ⟨x1, x2, x3, x4⟩ := rg s s0 s1'
          show zA υ 0 47 (24 * a + s) = _ ∧ zA υ 0 48 (24 * a + s) = _ ∧ zA υ 0 46 (24 * a + s) = _ ∧ zA υ 0 45 (24 * a + s) = _
          rw [x1, x2, x3, x4, ar 15 (by decide), ar 12 (by decide), ar 35 (by decide)]
          exact ⟨st s s0 (by omega), h36' s s0 s1', rfl, rfl⟩
        · obtain ⟨u, y1, y2, y3, y4, y5⟩ := py.1 k k0 k1
          exact ⟨u, y1, y2, y3, y4, fun h => y5.trans (lo _ h)⟩
        · obtain ⟨k, y1, y3, y4, y5⟩ := py.2 u u0 u1 uz
          exact ⟨k, y1, y3, y4, fun h => y5.trans (lo _ h)⟩
    · have hq := h3γ v hv.1 (by omega)
      refine ⟨by omega, by omega, fun n5 => next (by omega) (fun q => absurd q n5), fun e5 => ?_⟩
      have hn := hq.2.1 (by omega) (by omega)
      have hof := hOγ _ hn.1 hn.2
      have hat := hLγ.2.1 v hv.1 (by omega)
      have hsz := szp_bd h3γ hv.1 (by omega)
      refine s_distance h3γ (by omega) hn ?_
      refine s_isShort (by omega) (fun s1 s2 => ⟨by decide, fun _ => next (by omega) (fun _ => ⟨s1, s2⟩), fun q => absurd q (by decide)⟩) (fun ns => ⟨by decide, fun q => absurd rfl q, fun _ => tell _ _ _ ?_ (by decide)⟩)
      obtain ⟨j, j0, j1, jt, jk⟩ := pxγ.bw v hv.1 (by omega) (Or.inr e5)
      have t10 : a' j = 10 := by omega
      have d := dd j j0 j1 t10
      rw [← jk] at d
      rcases out2 with ⟨q, -⟩ | ⟨-, q, -⟩
      · exact q.symm
      · have := q j j0 j1 t10
        rw [← d] at this
        unfold Sh at this
        omega
  unfold wpX11_assemble_71
  refine lfp2_ind (fun _ v _ => (zI γ 0 34 - v).toNat) (fun x v τ => τ = γ ∧ (0 ≤ v ∧ v ≤ zI γ 0 34) ∧ x = psum (zA γ 0 36) v.toNat ∧ (0 ≤ x ∧ x ≤ 62000 * v)) ?_ ⟨rfl, by omega, rfl, by omega⟩
  intro P x v τ' ⟨he, hv, hx, hxb⟩ ih
  rw [he]
  show wpbX11_assemble_71 P a x v γ Q
  unfold wpbX11_assemble_71
  refine ⟨by omega, by omega, fun e => ⟨by omega, fun le4 => ?_, fun gt4 => tell _ _ _ ?_ (by decide)⟩, fun ne => ⟨by omega, ih _ _ _ ⟨rfl, by omega, ?_, ?_⟩ (by show (zI γ 0 34 - (v + 1)).toNat < (zI γ 0 34 - v).toNat; omega)⟩⟩
  · have hev : v = zI γ 0 34 := by omega
    refine f114 x ⟨hxb.1, le4⟩ ?_ ?_
    · rw [← hev, ← hx]; exact le4
    · rw [← hev]; exact hx
  · have hev : v = zI γ 0 34 := by omega
    rcases out with ⟨q, -⟩ | ⟨q, -⟩
    · exact q.symm
    · rw [← sume, ← hev, ← hx] at q; omega
  · rw [hps v hv.1, hx]
  · have := hLγ.1 v hv.1 (by omega)
    omega
/-! X: names of items and of fixups -/
theorem uOK_at {a b c : Int → Int} {N : Nat} (ht : ∀ j : Nat, j < N → 0 ≤ a j ∧ a j ≤ 12) (hok : yOK (yF a b c N)) : ∀ j : Int, 0 ≤ j → j < N → uOK (yF a b c N) (iK (a j)) (c j) (gI a b c j) := by
  have ok := (yF_ok (a := a) (b := b) (c := c) (yF a b c N) N ht).2.mp hok.2
  intro j j0 j1
  have := ok j.toNat (by omega)
  rw [show ((j.toNat : Nat) : Int) = j by omega] at this
  unfold gI
  rw [show (j + 1).toNat = j.toNat + 1 by omega]
  exact this
theorem so_ne {a b c : Int → Int} {N : Nat} (ht : ∀ j : Nat, j < N → 0 ≤ a j ∧ a j ≤ 12) (hok : yOK (yF a b c N)) {j : Int} (j0 : 0 ≤ j) (j1 : j < N) (t : 7 ≤ a j) : (yF a b c N).so (c j) ≠ 0 := by
  obtain ⟨u0, u1, u2, u3, u4⟩ := uOK_at ht hok j j0 j1
  have h12 := (ht j.toNat (by omega)).2
  rw [show ((j.toNat : Nat) : Int) = j by omega] at h12
  rcases (by omega : (a j = 7 ∨ a j = 8) ∨ (a j = 9 ∨ a j = 11) ∨ a j = 10 ∨ a j = 12) with q | q | q | q
  · exact u1 (by unfold iK; rw [if_neg (by omega), if_pos q])
  · rcases u3 (by unfold iK; rw [if_neg (by omega), if_neg (by omega), if_pos q]) with w | w
    · omega
    · omega
  · have := u2 (by unfold iK; rw [if_neg (by omega), if_neg (by omega), if_neg (by omega), if_pos q])
    omega
  · have := u4 (by unfold iK; rw [if_neg (by omega), if_neg (by omega), if_neg (by omega), if_neg (by omega), if_pos q])
    omega
theorem HJc_of {a b c : Int → Int} {N : Nat} (ht : ∀ j : Nat, j < N → 0 ≤ a j ∧ a j ≤ 12) (hok : yOK (yF a b c N)) (hg : ∀ j : Int, 0 ≤ j → j < N → (yF a b c N).so (c j) = 2 → (yF a b c N).sg (c j) = gI a b c j → 0 ≤ gI a b c j) : ∀ j : Int, 0 ≤ j → j < N → a j = 11 → (yF a b c N).so (c j) = 3 ∨ (0 ≤ lI a c (c j) N ∧ gI a b c (lI a c (c j) N) = gI a b c j ∧ 0 ≤ gI a b c j) := by
  intro j j0 j1 t
  have so := yF_so N ht hok.1
  rcases (uOK_at ht hok j j0 j1).2.2.2.1 (by rw [t]; rfl) with ⟨s2, sg⟩ | s3
  · have w := so (c j)
    exact Or.inr ⟨w.1.mpr s2, by rw [← w.2 s2]; exact sg, hg j j0 j1 s2 sg⟩
  · exact Or.inl s3
theorem mF_fn {d : MD} {k s p n q : Int} (h : q < (mF d k s p n).nf) : (q < d.nf ∧ (mF d k s p n).fn q = d.fn q) ∨ (mF d k s p n).fn q = n := by
  have h' : q < d.nf + 1 := h
  by_cases e : q = d.nf
  · exact Or.inr (by show zu d.fn d.nf n q = n; rw [e, pu_eq])
  · exact Or.inl ⟨by omega, pu_ne e⟩
theorem mNe_fn {a b c g X r : Int → Int} {N : Nat} {d : MD} {i q : Int} (h : q < (mNe a b c g X r N d i).nf) : (q < d.nf ∧ (mNe a b c g X r N d i).fn q = d.fn q) ∨ (mNe a b c g X r N d i).fn q = c i := by
  unfold mNe at h ⊢
  by_cases e : r (c i) = 3
  · rw [if_pos e] at h ⊢; exact mF_fn h
  · rw [if_neg e] at h ⊢; exact Or.inl ⟨h, rfl⟩
theorem mI_fn {a b c g X r : Int → Int} {N : Nat} {d : MD} {i q : Int} (h : q < (mI a b c g X r N d i).nf) : (q < d.nf ∧ (mI a b c g X r N d i).fn q = d.fn q) ∨ (7 ≤ a i ∧ (mI a b c g X r N d i).fn q = c i) := by
  by_cases t : a i ≤ 3 ∨ a i = 5
  · rw [mI_n t] at h ⊢; exact Or.inl ⟨h, rfl⟩
  have up : ∀ e : MD, (q < d.nf ∧ e.fn q = d.fn q) ∨ e.fn q = c i → 7 ≤ a i → (q < d.nf ∧ e.fn q = d.fn q) ∨ (7 ≤ a i ∧ e.fn q = c i) := fun e h t => h.imp id (fun w => ⟨t, w⟩)
  unfold mI at h ⊢
  by_cases n0 : g i < 0
  · rw [if_pos n0] at h ⊢; exact Or.inl ⟨h, rfl⟩
  rw [if_neg n0] at h ⊢
  by_cases n4 : a i = 4
  · rw [if_pos n4] at h ⊢; exact Or.inl ⟨h, rfl⟩
  rw [if_neg n4] at h ⊢
  by_cases n6 : a i = 6
  · rw [if_pos n6] at h ⊢; exact Or.inl ⟨h, rfl⟩
  rw [if_neg n6] at h ⊢
  by_cases n7 : a i = 7
  · rw [if_pos n7] at h ⊢
    exact up _ (mF_fn h) (by omega)
  rw [if_neg n7] at h ⊢
  by_cases n8 : a i = 8
  · rw [if_pos n8] at h ⊢
    exact up _ (mF_fn h) (by omega)
  rw [if_neg n8] at h ⊢
  by_cases n9 : a i = 9
  · rw [if_pos n9] at h ⊢
    by_cases x0 : X i = 0
    · rw [if_pos x0] at h ⊢; exact Or.inl ⟨h, rfl⟩
    · rw [if_neg x0] at h ⊢
      exact up _ (mNe_fn (d := mB d _ _) h) (by omega)
  rw [if_neg n9] at h ⊢
  by_cases n10 : a i = 10
  · rw [if_pos n10] at h ⊢; exact Or.inl ⟨h, rfl⟩
  rw [if_neg n10] at h ⊢
  by_cases n11 : a i = 11
  · rw [if_pos n11] at h ⊢
    exact up _ (mNe_fn (d := mB d _ _) h) (by omega)
  rw [if_neg n11] at h ⊢
  by_cases n12 : a i = 12
  · rw [if_pos n12] at h ⊢
    refine up _ ?_ (by omega)
    rcases mF_fn h with ⟨h1, h2⟩ | h2
    · rcases mF_fn (d := mW (mB d _ _) _ _) h1 with ⟨h3, h4⟩ | h4
      · exact Or.inl ⟨h3, h2.trans h4⟩
      · exact Or.inr (h2.trans h4)
    · exact Or.inr h2
  rw [if_neg n12] at h ⊢; exact Or.inl ⟨h, rfl⟩
theorem mK_fn {a b c g X r : Int → Int} {N : Nat} : ∀ (k : Nat) (q : Int), 0 ≤ q → q < (mK a b c g X r N k).nf → ∃ i : Int, (0 ≤ i ∧ i < k) ∧ 7 ≤ a i ∧ (mK a b c g X r N k).fn q = c i
  | 0, q, q0, q1 => absurd (show q < 0 from q1) (by omega)
  | k + 1, q, q0, q1 => by
    rcases mI_fn (show q < (mI a b c g X r N (mK a b c g X r N k) k).nf from q1) with ⟨h1, h2⟩ | ⟨h1, h2⟩
    · obtain ⟨i, i1, i2, i3⟩ := mK_fn k q q0 h1
      exact ⟨i, by omega, i2, h2.trans i3⟩
    · exact ⟨k, by omega, h1, h2⟩
/-! X: publics among uses and items -/
theorem iK_0 {t : Int} : iK t = 0 ↔ t = 2 := by
  unfold iK
  constructor
  · intro h
    by_cases e : t = 2
    · exact e
    · rw [if_neg e] at h
      split at h
      · exact absurd h (by decide)
      · split at h
        · exact absurd h (by decide)
        · split at h
          · exact absurd h (by decide)
          · split at h
            · exact absurd h (by decide)
            · exact absurd h (by decide)
  · intro e; rw [if_pos e]
theorem yF_pub {a b c : Int → Int} : ∀ k : Nat, (∀ j : Nat, j < k → 0 ≤ a j ∧ a j ≤ 12) → (∀ u : Int, 0 ≤ u → u < (yF a b c k).u.nu → (yF a b c k).u.uk u = 0 → ∃ j : Int, (0 ≤ j ∧ j < k) ∧ a j = 2 ∧ c j = (yF a b c k).u.un u) ∧ (∀ j : Nat, j < k → a j = 2 → ∃ u : Int, (0 ≤ u ∧ u < (yF a b c k).u.nu) ∧ (yF a b c k).u.uk u = 0 ∧ (yF a b c k).u.un u = c j)
  | 0, _ => ⟨fun u u0 u1 => absurd (show u < 0 from u1) (by omega), fun j hj => absurd hj (Nat.not_lt_zero j)⟩
  | k + 1, ht => by
    obtain ⟨h1, h2⟩ := yF_pub (a := a) (b := b) (c := c) k (fun j hj => ht j (by omega))
    have n0 := (yF_ok (a := a) (b := b) (c := c) yD0 k (fun j hj => ht j (by omega))).1
    have hk := ht k (by omega)
    have e : yF a b c (k + 1) = yI (yF a b c k) (a k) (b k) (c k) := rfl
    have y := yI_u (d := yF a b c k) (t := a k) (v := b k) (n := c k) hk.1 hk.2
    by_cases q : iK (a k) < 0
    · have eu := y.1 q
      rw [← e] at eu
      rw [eu]
      refine ⟨fun u u0 u1 uz => ?_, fun j hj t => ?_⟩
      · obtain ⟨j, j1, j2⟩ := h1 u u0 u1 uz
        exact ⟨j, by omega, j2⟩
      · by_cases ej : j = k
        · rw [ej] at t
          have := iK_0.mpr t
          omega
        · exact h2 j (by omega) t
    · have eu := y.2.1 (by omega)
      rw [← e] at eu
      rw [eu]
      refine ⟨fun u u0 u1 uz => ?_, fun j hj t => ?_⟩
      · have u1' : u < (yF a b c k).u.nu + 1 := u1
        have uz' : zu (yF a b c k).u.uk (yF a b c k).u.nu (iK (a k)) u = 0 := uz
        show ∃ j : Int, (0 ≤ j ∧ j < ((k + 1 : Nat) : Int)) ∧ a j = 2 ∧ c j = zu (yF a b c k).u.un (yF a b c k).u.nu (c k) u
        by_cases ej : u = (yF a b c k).u.nu
        · rw [ej, pu_eq] at uz'
          exact ⟨k, by omega, iK_0.mp uz', by rw [ej, pu_eq]⟩
        · rw [pu_ne ej] at uz'
          obtain ⟨j, j1, j2, j3⟩ := h1 u u0 (by omega) uz'
          exact ⟨j, by omega, j2, by rw [pu_ne ej]; exact j3⟩
      · show ∃ u : Int, (0 ≤ u ∧ u < (yF a b c k).u.nu + 1) ∧ zu (yF a b c k).u.uk (yF a b c k).u.nu (iK (a k)) u = 0 ∧ zu (yF a b c k).u.un (yF a b c k).u.nu (c k) u = c j
        by_cases ej : j = k
        · rw [ej] at t ⊢
          exact ⟨(yF a b c k).u.nu, by omega, by rw [pu_eq]; exact iK_0.mpr t, by rw [pu_eq]⟩
        · obtain ⟨u, u1, u2, u3⟩ := h2 j (by omega) t
          exact ⟨u, by omega, by rw [pu_ne (by omega)]; exact u2, by rw [pu_ne (by omega)]; exact u3⟩
/-! X: a near fixup's name is from outside -/
def K2 (r : Int → Int) (d e : MD) (q : Int) : Prop := (q < d.nf ∧ e.fk q = d.fk q ∧ e.fn q = d.fn q) ∨ (e.fk q = 2 → r (e.fn q) = 3)
theorem mF_k {r : Int → Int} {d : MD} {k s p n q : Int} (hk : k = 2 → r n = 3) (h : q < (mF d k s p n).nf) : K2 r d (mF d k s p n) q := by
  have h' : q < d.nf + 1 := h
  by_cases e : q = d.nf
  · refine Or.inr (fun y => ?_)
    have y' : zu d.fk d.nf k q = 2 := y
    show r (zu d.fn d.nf n q) = 3
    rw [e, pu_eq] at y' ⊢
    exact hk y'
  · exact Or.inl ⟨by omega, pu_ne e, pu_ne e⟩
theorem mNe_k {a b c g X r : Int → Int} {N : Nat} {d : MD} {i q : Int} (h : q < (mNe a b c g X r N d i).nf) : K2 r d (mNe a b c g X r N d i) q := by
  unfold mNe at h ⊢
  by_cases e : r (c i) = 3
  · rw [if_pos e] at h ⊢; exact mF_k (fun _ => e) h
  · rw [if_neg e] at h ⊢; exact Or.inl ⟨h, rfl, rfl⟩
theorem mI_k {a b c g X r : Int → Int} {N : Nat} {d : MD} {i q : Int} (h : q < (mI a b c g X r N d i).nf) : K2 r d (mI a b c g X r N d i) q := by
  by_cases t : a i ≤ 3 ∨ a i = 5
  · rw [mI_n t] at h ⊢; exact Or.inl ⟨h, rfl, rfl⟩
  unfold mI at h ⊢
  by_cases n0 : g i < 0
  · rw [if_pos n0] at h ⊢; exact Or.inl ⟨h, rfl, rfl⟩
  rw [if_neg n0] at h ⊢
  by_cases n4 : a i = 4
  · rw [if_pos n4] at h ⊢; exact Or.inl ⟨h, rfl, rfl⟩
  rw [if_neg n4] at h ⊢
  by_cases n6 : a i = 6
  · rw [if_pos n6] at h ⊢; exact Or.inl ⟨h, rfl, rfl⟩
  rw [if_neg n6] at h ⊢
  by_cases n7 : a i = 7
  · rw [if_pos n7] at h ⊢
    exact mF_k (d := mW d _ _) (fun q => absurd q (by decide)) h
  rw [if_neg n7] at h ⊢
  by_cases n8 : a i = 8
  · rw [if_pos n8] at h ⊢
    exact mF_k (fun q => absurd q (by decide)) h
  rw [if_neg n8] at h ⊢
  by_cases n9 : a i = 9
  · rw [if_pos n9] at h ⊢
    by_cases x0 : X i = 0
    · rw [if_pos x0] at h ⊢; exact Or.inl ⟨h, rfl, rfl⟩
    · rw [if_neg x0] at h ⊢
      exact mNe_k (d := mB d _ _) h
  rw [if_neg n9] at h ⊢
  by_cases n10 : a i = 10
  · rw [if_pos n10] at h ⊢; exact Or.inl ⟨h, rfl, rfl⟩
  rw [if_neg n10] at h ⊢
  by_cases n11 : a i = 11
  · rw [if_pos n11] at h ⊢
    exact mNe_k (d := mB d _ _) h
  rw [if_neg n11] at h ⊢
  by_cases n12 : a i = 12
  · rw [if_pos n12] at h ⊢
    rcases mF_k (r := r) (fun q => absurd q (by decide)) h with ⟨h1, h2, h3⟩ | h2
    · rcases mF_k (r := r) (d := mW (mB d _ _) _ _) (fun q => absurd q (by decide)) h1 with ⟨h4, h5, h6⟩ | h5
      · exact Or.inl ⟨h4, h2.trans h5, h3.trans h6⟩
      · refine Or.inr (fun y => ?_)
        rw [h3]
        exact h5 (h2.symm.trans y)
    · exact Or.inr h2
  rw [if_neg n12] at h ⊢; exact Or.inl ⟨h, rfl, rfl⟩
theorem mK_k {a b c g X r : Int → Int} {N : Nat} : ∀ (k : Nat) (q : Int), 0 ≤ q → q < (mK a b c g X r N k).nf → (mK a b c g X r N k).fk q = 2 → r ((mK a b c g X r N k).fn q) = 3
  | 0, q, q0, q1, _ => absurd (show q < 0 from q1) (by omega)
  | k + 1, q, q0, q1, y => by
    have y' : (mI a b c g X r N (mK a b c g X r N k) k).fk q = 2 := y
    show r ((mI a b c g X r N (mK a b c g X r N k) k).fn q) = 3
    rcases mI_k (show q < (mI a b c g X r N (mK a b c g X r N k) k).nf from q1) with ⟨h1, h2, h3⟩ | h2
    · rw [h3]; exact mK_k k q q0 h1 (by rw [← h2]; exact y')
    · exact h2 y'
/-! X: fixups don't meet, and where a paragraph or a near address comes the code is zero -/
/-- from d to e one item of length l at offset o of the segment s, which begins at A -/
def NX (d e : MD) (s o l A : Int) : Prop := d.nf ≤ e.nf ∧ (∀ q : Int, 0 ≤ q → q < d.nf → e.fk q = d.fk q ∧ e.fs q = d.fs q ∧ e.fp q = d.fp q) ∧ (∀ q : Int, d.nf ≤ q → q < e.nf → e.fs q = s ∧ o ≤ e.fp q ∧ e.fp q + 2 ≤ o + l ∧ (¬ e.fk q = 0 → e.co (A + e.fp q) = 0 ∧ e.co (A + e.fp q + 1) = 0)) ∧ (∀ q q' : Int, d.nf ≤ q → q < q' → q' < e.nf → e.fp q + 2 ≤ e.fp q')
theorem NX.z {d e : MD} {s o l A : Int} (h : e.2 = d.2) : NX d e s o l A := by
  have h1 : e.fk = d.fk := congrArg (fun x => x.1) h
  have h2 : e.fs = d.fs := congrArg (fun x => x.2.1) h
  have h3 : e.fp = d.fp := congrArg (fun x => x.2.2.1) h
  have h4 : e.nf = d.nf := congrArg (fun x => x.2.2.2.2) h
  refine ⟨by omega, fun q _ _ => ?_, fun q q0 q1 => by omega, fun q q' q0 q1 q2 => by omega⟩
  rw [h1, h2, h3]; exact ⟨rfl, rfl, rfl⟩
theorem NX.f {d d' : MD} {s o l A k p n : Int} (h : d'.2 = d.2) (h0 : o ≤ p) (h1 : p + 2 ≤ o + l) (hz : ¬ k = 0 → d'.co (A + p) = 0 ∧ d'.co (A + p + 1) = 0) : NX d (mF d' k s p n) s o l A := by
  have e1 : d'.fk = d.fk := congrArg (fun x => x.1) h
  have e2 : d'.fs = d.fs := congrArg (fun x => x.2.1) h
  have e3 : d'.fp = d.fp := congrArg (fun x => x.2.2.1) h
  have e4 : d'.nf = d.nf := congrArg (fun x => x.2.2.2.2) h
  have n : (mF d' k s p n).nf = d.nf + 1 := by show d'.nf + 1 = _; rw [e4]
  refine ⟨by omega, fun q q0 q1 => ?_, fun q q0 q1 => ?_, fun q q' q0 q1 q2 => by omega⟩
  · show zu d'.fk d'.nf k q = d.fk q ∧ zu d'.fs d'.nf s q = d.fs q ∧ zu d'.fp d'.nf p q = d.fp q
    rw [pu_ne (by omega), pu_ne (by omega), pu_ne (by omega), e1, e2, e3]; exact ⟨rfl, rfl, rfl⟩
  · have eq : q = d'.nf := by omega
    show zu d'.fs d'.nf s q = s ∧ o ≤ zu d'.fp d'.nf p q ∧ zu d'.fp d'.nf p q + 2 ≤ o + l ∧ (¬ zu d'.fk d'.nf k q = 0 → d'.co (A + zu d'.fp d'.nf p q) = 0 ∧ d'.co (A + zu d'.fp d'.nf p q + 1) = 0)
    rw [eq, pu_eq, pu_eq, pu_eq]
    exact ⟨rfl, h0, h1, hz⟩
theorem NX.ne {a b c g X r : Int → Int} {N : Nat} {d d' : MD} {i : Int} (h : d'.2 = d.2) (hz : d'.co (stS a b g X N (g i) + (ofS a b g X i + 1)) = 0 ∧ d'.co (stS a b g X N (g i) + (ofS a b g X i + 1) + 1) = 0) : NX d (mNe a b c g X r N d' i) (g i) (ofS a b g X i) 3 (stS a b g X N (g i)) := by
  unfold mNe
  by_cases e : r (c i) = 3
  · rw [if_pos e]; exact NX.f h (by omega) (by omega) (fun _ => hz)
  · rw [if_neg e]; exact NX.z h
theorem mI_nx {a b c g X r : Int → Int} {N : Nat} {d : MD} {i : Int} (n0 : ¬ g i < 0) (hz : ∀ o : Int, ofS a b g X i ≤ o → o < ofS a b g X i + sI a b X i → d.co (stS a b g X N (g i) + o) = 0) : NX d (mI a b c g X r N d i) (g i) (ofS a b g X i) (sI a b X i) (stS a b g X N (g i)) := by
  unfold mI
  rw [if_neg n0]
  by_cases n4 : a i = 4
  · rw [if_pos n4]; exact NX.z rfl
  rw [if_neg n4]
  by_cases n6 : a i = 6
  · rw [if_pos n6]; exact NX.z rfl
  rw [if_neg n6]
  by_cases n7 : a i = 7
  · rw [if_pos n7]
    have s2 : sI a b X i = 2 := by unfold sI; rw [if_neg n4, if_neg (by omega), if_neg (by omega), if_pos (by omega)]
    exact NX.f (d' := mW d _ _) rfl (by omega) (by omega) (fun q => absurd rfl q)
  rw [if_neg n7]
  by_cases n8 : a i = 8
  · rw [if_pos n8]
    have s2 : sI a b X i = 2 := by unfold sI; rw [if_neg n4, if_neg (by omega), if_neg (by omega), if_pos (by omega)]
    exact NX.f rfl (by omega) (by omega) (fun _ => ⟨hz _ (by omega) (by omega), by rw [Int.add_assoc]; exact hz _ (by omega) (by omega)⟩)
  rw [if_neg n8]
  have far : ∀ x : Int, sI a b X i = 3 → NX d (mNe a b c g X r N (mB d (stS a b g X N (g i) + ofS a b g X i) x) i) (g i) (ofS a b g X i) (sI a b X i) (stS a b g X N (g i)) := by
    intro x s3
    rw [s3]
    refine NX.ne rfl ⟨?_, ?_⟩
    · rw [mB_o (by omega)]; exact hz _ (by omega) (by omega)
    · rw [mB_o (by omega), Int.add_assoc]; exact hz _ (by omega) (by omega)
  by_cases n9 : a i = 9
  · rw [if_pos n9]
    by_cases x0 : X i = 0
    · rw [if_pos x0]; exact NX.z rfl
    · rw [if_neg x0]
      exact far _ (by unfold sI; rw [if_neg n4, if_neg (by omega), if_pos n9, if_neg x0])
  rw [if_neg n9]
  by_cases n10 : a i = 10
  · rw [if_pos n10]; exact NX.z rfl
  rw [if_neg n10]
  by_cases n11 : a i = 11
  · rw [if_pos n11]
    exact far _ (by unfold sI; rw [if_neg n4, if_neg (by omega), if_neg n9, if_neg (by omega), if_pos n11])
  rw [if_neg n11]
  by_cases n12 : a i = 12
  · rw [if_pos n12]
    have s5 : sI a b X i = 5 := by unfold sI; rw [if_neg n4, if_neg (by omega), if_neg n9, if_neg (by omega), if_neg n11, if_pos n12]
    rw [s5] at hz ⊢
    obtain ⟨A, eA⟩ : ∃ A, A = stS a b g X N (g i) := ⟨_, rfl⟩
    obtain ⟨o, eo⟩ : ∃ o, o = ofS a b g X i := ⟨_, rfl⟩
    unfold mOf
    rw [← eA, ← eo] at hz ⊢
    obtain ⟨d1, ed1⟩ : ∃ d1, d1 = mW (mB d (A + o) 154) (A + (o + 1)) (b i + if r (c i) = 2 then loS a b c g X N (c i) else 0) := ⟨_, rfl⟩
    have h2 : d1.2 = d.2 := by rw [ed1]; rfl
    have c3 : d1.co (A + (o + 3)) = 0 ∧ d1.co (A + (o + 3) + 1) = 0 := by
      rw [ed1, mW_o (by omega) (by omega), mB_o (by omega), mW_o (by omega) (by omega), mB_o (by omega), Int.add_assoc A (o + 3) 1]
      exact ⟨hz _ (by omega) (by omega), hz _ (by omega) (by omega)⟩
    rw [← ed1]
    have e1 : d1.fk = d.fk := congrArg (fun x => x.1) h2
    have e2 : d1.fs = d.fs := congrArg (fun x => x.2.1) h2
    have e3 : d1.fp = d.fp := congrArg (fun x => x.2.2.1) h2
    have e4 : d1.nf = d.nf := congrArg (fun x => x.2.2.2.2) h2
    have nn : (mF (mF d1 0 (g i) (o + 1) (c i)) 1 (g i) (o + 3) (c i)).nf = d.nf + 2 := by
      show d1.nf + 1 + 1 = _
      omega
    have pe : ∀ q : Int, (mF (mF d1 0 (g i) (o + 1) (c i)) 1 (g i) (o + 3) (c i)).fp q = zu (zu d1.fp d1.nf (o + 1)) (d1.nf + 1) (o + 3) q := fun _ => rfl
    have ke : ∀ q : Int, (mF (mF d1 0 (g i) (o + 1) (c i)) 1 (g i) (o + 3) (c i)).fk q = zu (zu d1.fk d1.nf 0) (d1.nf + 1) 1 q := fun _ => rfl
    have se : ∀ q : Int, (mF (mF d1 0 (g i) (o + 1) (c i)) 1 (g i) (o + 3) (c i)).fs q = zu (zu d1.fs d1.nf (g i)) (d1.nf + 1) (g i) q := fun _ => rfl
    have ce : (mF (mF d1 0 (g i) (o + 1) (c i)) 1 (g i) (o + 3) (c i)).co = d1.co := rfl
    refine ⟨by omega, fun q q0 q1 => ?_, fun q q0 q1 => ?_, fun q q' q0 q1 q2 => ?_⟩
    · rw [pe, ke, se, pu_ne (by omega), pu_ne (by omega), pu_ne (by omega), pu_ne (by omega), pu_ne (by omega), pu_ne (by omega), e1, e2, e3]; exact ⟨rfl, rfl, rfl⟩
    · rw [pe, ke, se, ce]
      rcases (by omega : q = d1.nf ∨ q = d1.nf + 1) with eq | eq
      · have ne : d1.nf ≠ d1.nf + 1 := by omega
        have p0 : zu (zu d1.fp d1.nf (o + 1)) (d1.nf + 1) (o + 3) d1.nf = o + 1 := by rw [pu_ne ne, pu_eq]
        have k0 : zu (zu d1.fk d1.nf 0) (d1.nf + 1) 1 d1.nf = 0 := by rw [pu_ne ne, pu_eq]
        have s0 : zu (zu d1.fs d1.nf (g i)) (d1.nf + 1) (g i) d1.nf = g i := by rw [pu_ne ne, pu_eq]
        rw [eq, p0, k0, s0]
        exact ⟨rfl, by omega, by omega, fun q => absurd rfl q⟩
      · rw [eq, pu_eq, pu_eq, pu_eq]
        exact ⟨rfl, by omega, by omega, fun _ => c3⟩
    · have eq : q = d1.nf := by omega
      have eq' : q' = d1.nf + 1 := by omega
      rw [pe, pe, eq, eq', pu_eq, pu_ne (by omega), pu_eq]
      omega
  rw [if_neg n12]; exact NX.z rfl
/-- all fixups, behind k items -/
def FI (a b c g X r : Int → Int) (N k : Nat) : Prop := ∀ q : Int, 0 ≤ q → q < (mK a b c g X r N k).nf → (0 ≤ (mK a b c g X r N k).fs q ∧ 0 ≤ (mK a b c g X r N k).fp q) ∧ (mK a b c g X r N k).fp q + 2 ≤ oS a b g X ((mK a b c g X r N k).fs q) k ∧ (¬ (mK a b c g X r N k).fk q = 0 → (mK a b c g X r N k).co (stS a b g X N ((mK a b c g X r N k).fs q) + (mK a b c g X r N k).fp q) = 0 ∧ (mK a b c g X r N k).co (stS a b g X N ((mK a b c g X r N k).fs q) + (mK a b c g X r N k).fp q + 1) = 0) ∧ (∀ q' : Int, q < q' → q' < (mK a b c g X r N k).nf → (mK a b c g X r N k).fs q' = (mK a b c g X r N k).fs q → (mK a b c g X r N k).fp q + 2 ≤ (mK a b c g X r N k).fp q')
theorem mK_fi {a b c g X r : Int → Int} {N : Nat} (hb : ∀ j : Nat, j < N → a j = 5 → 0 ≤ b j) : ∀ k : Nat, k ≤ N → FI a b c g X r N k
  | 0, _ => fun q q0 q1 => absurd (show q < 0 from q1) (by omega)
  | k + 1, hk => by
    have ih := mK_fi (c := c) (r := r) (g := g) (X := X) hb k (by omega)
    have sk := sI_nn (X := X) (hb k (by omega))
    have oe : ∀ s : Int, oS a b g X s (k + 1) = oS a b g X s k + (if g k = s then sI a b X k else 0) := fun _ => rfl
    have om : ∀ s : Int, oS a b g X s k ≤ oS a b g X s (k + 1) := fun s => by rw [oe s]; split <;> omega
    have oN : ∀ s : Int, oS a b g X s (k + 1) ≤ oS a b g X s N := fun s => by
      have := oS_mo (a := a) (b := b) (g := g) (X := X) (Y := X) (s := s) (m := k + 1) N hk (fun j hj => hb j hj) (fun j _ h => h)
      omega
    show ∀ q : Int, 0 ≤ q → q < (mI a b c g X r N (mK a b c g X r N k) k).nf → _
    by_cases n0 : g k < 0
    · intro q q0 q1
      have e : mK a b c g X r N (k + 1) = mK a b c g X r N k := mI_d (Or.inl n0)
      rw [mI_d (Or.inl n0)] at q1
      rw [e]
      obtain ⟨i1, i2, i3, i4⟩ := ih q q0 q1
      exact ⟨i1, Int.le_trans i2 (om _), i3, i4⟩
    · have of : ofS a b g X k = oS a b g X (g k) k := by unfold ofS; rw [show ((k : Int)).toNat = k by omega]
      have fit := oS_fit (a := a) (b := b) (g := g) (X := X) (N := N) (i := k) hb (by omega) (by omega)
      have nx := mI_nx (a := a) (b := b) (c := c) (g := g) (X := X) (r := r) (N := N) (d := mK a b c g X r N k) (i := k) n0 (fun o o0 o1 => mZ hb k (by omega) (g k) o (by omega) (by omega) (by omega))
      have ek : oS a b g X (g k) (k + 1) = oS a b g X (g k) k + sI a b X k := by rw [oe, if_pos rfl]
      have eM : mK a b c g X r N (k + 1) = mI a b c g X r N (mK a b c g X r N k) k := rfl
      have cok : ∀ s o : Int, 0 ≤ s → 0 ≤ o → o < oS a b g X s k → (mI a b c g X r N (mK a b c g X r N k) k).co (stS a b g X N s + o) = (mK a b c g X r N k).co (stS a b g X N s + o) := by
        intro s o s0 o0 o1
        refine mI_co (hb k (by omega)) ?_
        by_cases es : g k = s
        · rw [of, es]; omega
        · have h1 := om s
          have h2 := oN s
          by_cases lt : g k < s
          · have := st_le (g := g) (X := X) hb (show 0 ≤ g k by omega) lt
            omega
          · have := st_le (g := g) (X := X) hb s0 (show s < g k by omega)
            omega
      intro q q0 q1
      rw [eM]
      obtain ⟨x1, x2, x3, x4⟩ := nx
      by_cases old : q < (mK a b c g X r N k).nf
      · obtain ⟨i1, i2, i3, i4⟩ := ih q q0 old
        obtain ⟨y1, y2, y3⟩ := x2 q q0 old
        rw [y1, y2, y3]
        refine ⟨i1, Int.le_trans i2 (om _), fun nz => ?_, fun q' l1 l2 es => ?_⟩
        · have c0 := cok ((mK a b c g X r N k).fs q) ((mK a b c g X r N k).fp q) i1.1 i1.2 (by omega)
          have c1 := cok ((mK a b c g X r N k).fs q) ((mK a b c g X r N k).fp q + 1) i1.1 (by omega) (by omega)
          rw [c0, Int.add_assoc, c1, ← Int.add_assoc]
          exact i3 nz
        · by_cases old' : q' < (mK a b c g X r N k).nf
          · obtain ⟨z1, z2, z3⟩ := x2 q' (by omega) old'
            rw [z2] at es
            rw [z3]; exact i4 q' l1 old' es
          · obtain ⟨z1, z2, z3, z4⟩ := x3 q' (by omega) l2
            rw [z1] at es
            rw [← es] at i2
            omega
      · obtain ⟨z1, z2, z3, z4⟩ := x3 q (by omega) q1
        rw [z1]
        rw [of] at z2 z3
        have on := oS_nn (g := g) (X := X) (s := g k) k (fun j hj => hb j (by omega))
        exact ⟨⟨by omega, by omega⟩, by omega, z4, fun q' l1 l2 _ => x4 q q' (by omega) l1 l2⟩
/-! X: assemble answers alike, and the modules are alike -/
def MLx (σ ρ : ZS) (m : Int) : Prop := (zI σ m 1 = zA ρ 0 44 m ∧ ∀ s : Int, 0 ≤ s → s < zI σ m 1 → zA ρ 0 48 (24 * m + s) = zA σ m 4 s ∧ zA ρ 0 47 (24 * m + s) = zA σ m 5 s ∧ zA ρ 0 46 (24 * m + s) = zA σ m 3 s ∧ RW (zA ρ 0 45 (24 * m + s)) (zA σ m 2 s)) ∧ (∀ j : Int, 0 ≤ j → j < 400 → zA ρ 0 49 (400 * m + j) = zA σ m 6 j) ∧ (zI σ m 7 = zA ρ 0 50 m ∧ ∀ k : Int, 0 ≤ k → k < zI σ m 7 → zA ρ 0 51 (200 * m + k) = zA σ m 8 k ∧ zA ρ 0 52 (200 * m + k) = zA σ m 9 k ∧ zA ρ 0 53 (200 * m + k) = zA σ m 10 k ∧ zA ρ 0 54 (200 * m + k) = zA σ m 11 k ∧ RW (zA ρ 0 55 (200 * m + k)) (zA σ m 12 k)) ∧ (∀ k : Int, 0 ≤ k → k < zA ρ 0 56 m → ∃ q : Int, (0 ≤ q ∧ q < zI σ m 13) ∧ RW (zA ρ 0 57 (80 * m + k)) (zA σ m 14 q) ∧ zA ρ 0 58 (80 * m + k) = zA σ m 15 q ∧ zA ρ 0 59 (80 * m + k) = zA σ m 16 q) ∧ (∀ q : Int, 0 ≤ q → q < zI σ m 13 → ∃ k : Int, (0 ≤ k ∧ k < zA ρ 0 56 m) ∧ RW (zA ρ 0 57 (80 * m + k)) (zA σ m 14 q) ∧ zA ρ 0 58 (80 * m + k) = zA σ m 15 q ∧ zA ρ 0 59 (80 * m + k) = zA σ m 16 q) ∧ (∀ q q' : Int, 0 ≤ q → q < zI σ m 13 → 0 ≤ q' → q' < zI σ m 13 → zA σ m 14 q = zA σ m 14 q' → q = q') ∧ (∀ k : Int, 0 ≤ k → k < zI σ m 7 → zA σ m 8 k = 2 → zA σ m 11 k < 0)
/-- fixups don't meet, and where no offset comes the code is zero -/
def FXm (σ : ZS) (m : Int) : Prop := ∀ k : Int, 0 ≤ k → k < zI σ m 7 → zA σ m 9 k < zI σ m 1 → (¬ zA σ m 8 k = 0 → zA σ m 6 (zA σ m 5 (zA σ m 9 k) + zA σ m 10 k) = 0 ∧ zA σ m 6 (zA σ m 5 (zA σ m 9 k) + zA σ m 10 k + 1) = 0) ∧ (∀ k' : Int, k < k' → k' < zI σ m 7 → zA σ m 9 k' = zA σ m 9 k → zA σ m 10 k + 2 ≤ zA σ m 10 k')
theorem FXm.k {σ τ : ZS} {m : Int} (h : FXm σ m) (e : ob τ m = ob σ m) : FXm τ m := by
  unfold FXm at h ⊢
  rw [ob_I e 1, ob_I e 7, ob_A e 5, ob_A e 6, ob_A e 8, ob_A e 9, ob_A e 10]
  exact h
/-- the reference keeps its image and its machine -/
abbrev KIf : List Nat := [60, 62, 64, 65, 66, 76, 77, 78]
abbrev KIa : List Nat := [61, 63, 74, 75, 79]
def Kim (ρ τ : ZS) : Prop := (∀ f : Nat, f ∈ KIf → zI τ 0 f = zI ρ 0 f) ∧ (∀ f : Nat, f ∈ KIa → zA τ 0 f = zA ρ 0 f)
theorem Kim.of {fs as : List Nat} {ρ τ : ZS} (f : fr fs as ρ τ) (h : ∀ k ∈ KIf, k ∉ fs) (h' : ∀ k ∈ KIa, k ∉ as) : Kim ρ τ := ⟨f.in h, f.an h'⟩
/-- how the reference's assemble ends -/
def AO5 (ρ : ZS) (a cd w N' : Int) (PM : ZS → Prop) : Prop := ∀ Qr : Int → ZS → Prop, (∀ (r : Int) (ρ' : ZS), RI ρ' N' → zI ρ' 0 2 = (if 0 ≤ a ∧ a ≤ 2 then 0 else zI ρ 0 2) → zA ρ' 0 1 = zA ρ 0 1 → zI ρ' 0 0 = cd → (cd = 0 → r = w) → ((cd ≠ 0 → ∀ f : Nat, f ∈ WA → zA ρ' 0 f = zA ρ 0 f) ∧ (cd = 0 → zA ρ' 0 43 = zu (zA ρ 0 43) a 1 ∧ OY a ρ ρ' ∧ PM ρ')) → Kim ρ ρ' → Qr r ρ') → wpX11_assemble a ρ Qr
theorem AO5_of {ρ : ZS} {a cd w N' : Int} {PM : ZS → Prop} {a' b' c' r' X : Int → Int} {N : Nat} (hr : RI ρ N') (hA : 0 ≤ a ∧ a ≤ 2) (PO : Int → ZS → Prop) (hparse : ∀ Qp : Int → ZS → Prop, (∀ (r : Int) (τ : ZS), GG τ → fr PF PA (zsI ρ 0 0 0) τ → (r = 0 ∨ r = 1) → PO r τ → Qp r τ) → wpX11_parse (zsI ρ 0 0 0) Qp) (hD0 : ∀ τ : ZS, PO 0 τ → cd = 2) (hD1 : ∀ τ : ZS, PO 1 τ → GG τ → (cd = 3 ∧ ¬ JW τ) ∨ (JW τ ∧ SDp a' b' c' r' N X cd w τ)) (hPM : cd = 0 → ∀ υ τ : ZS, PO 1 υ → SUC a' b' c' r' N X υ a τ → PM τ) : AO5 ρ a cd w N' PM := by
  intro Qr hq
  obtain ⟨h1, h2, h3, h4, h5⟩ := hr
  refine x_assemble5 ⟨h1, h2, h3.1, h3.2⟩ hA PO hparse hD0 hD1 (fun r τ g f hr' e e0 ew et => hq r τ ⟨g.1, g.2.1, ⟨g.2.2.1, g.2.2.2⟩, h4.same (f.in (by decide)) (f.an (by decide)), h5.same (f.in (by decide)) (f.an (by decide))⟩ (by rw [if_pos hA]; exact e) (f.2 1 (by decide)) e0 ew ⟨et.1, fun z => ?_⟩ (Kim.of f (by decide) (by decide)))
  obtain ⟨q1, q2, υ, q3, q4⟩ := et.2 z
  exact ⟨q1, q2, hPM z υ τ q3 q4⟩
theorem AO5_no {ρ : ZS} {a N' : Int} {PM : ZS → Prop} (hr : RI ρ N') (ha : -2147483648 ≤ a ∧ a ≤ 2147483647) (hA : ¬ (0 ≤ a ∧ a ≤ 2)) : AO5 ρ a 1 0 N' PM := by
  intro Qr hq
  have f : wpX11_assemble_14 (zsI ρ 0 0 0) Qr := by
    unfold wpX11_assemble_14 wpX11_raise
    refine hq 0 _ (hr.read ((fr.rf.ti (by decide)).ti (by decide))) (by rw [if_neg hA]; rfl) rfl ?_ (fun q => absurd q (by decide)) ⟨fun _ _ _ => rfl, fun q => absurd q (by decide)⟩ (Kim.of (fs := [0]) (as := []) ((fr.rf.ti (by decide)).ti (by decide)) (by decide) (by decide))
    exact zI_s
  unfold wpX11_assemble
  exact ⟨ha, fun _ => f, fun nn => ⟨fun le => absurd ⟨by omega, le⟩ hA, fun _ => f⟩⟩
theorem t_assemble5 {σ ρ : ZS} {N N' a : Int} {Q : Int → ZS → Prop} {X : String → ZS → Prop} (h : CI σ N) (hr : RI ρ N') (hlen : zI σ 10 1 = zI ρ 0 2) (htx : ∀ j : Int, 0 ≤ j → j < zI ρ 0 2 → zA ρ 0 1 j = zA σ 10 0 j) (ha : -2147483648 ≤ a ∧ a ≤ 2147483647) (hQ : ∀ (x : Int) (τ : ZS), CI τ N → zI τ 10 1 = (if 0 ≤ a ∧ a ≤ 2 then 0 else zI σ 10 1) → (¬ (0 ≤ a ∧ a ≤ 2) → zA τ 10 0 = zA σ 10 0) → AO5 ρ a 0 x N' (fun ρ' => MLx τ ρ' a) → (0 ≤ a ∧ a ≤ 2) → (∀ m : Int, 0 ≤ m → m ≤ 2 → m ≠ a → ob τ m = ob σ m) → zI τ a 0 = 1 → FXm τ a → (ob τ 17 = ob σ 17 ∧ ob τ 18 = ob σ 18) → Q x τ) (hX : ∀ (s : String) (τ : ZS), ((s = xIAE ∧ AO5 ρ a 1 0 N' (fun _ => True)) ∨ (s = xUOE ∧ AO5 ρ a 2 0 N' (fun _ => True)) ∨ (s = xNSE ∧ AO5 ρ a 3 0 N' (fun _ => True)) ∨ (s = xIOB ∧ AO5 ρ a 4 0 N' (fun _ => True)) ∨ (s = xARI ∧ AO5 ρ a 5 0 N' (fun _ => True))) → CI τ N → zI τ 10 1 = (if 0 ≤ a ∧ a ≤ 2 then 0 else zI σ 10 1) → (¬ (0 ≤ a ∧ a ≤ 2) → zA τ 10 0 = zA σ 10 0) → (∀ m : Int, 0 ≤ m → m ≤ 2 → ob τ m = ob σ m) → (ob τ 17 = ob σ 17 ∧ ob τ 18 = ob σ 18) → X s τ) : wpX10_assemble a σ Q X := by
  obtain ⟨hT, hN, hL, hM, hK, hI, hC⟩ := h
  unfold wpX10_assemble
  refine c_isModule ha (fun a0 a2 => ⟨by decide, fun _ => ?_, fun q => absurd q (by decide)⟩) (fun no => ⟨by decide, fun q => absurd rfl q, fun _ => hX _ σ (Or.inl ⟨rfl, AO5_no hr ha no⟩) ⟨hT, hN, hL, hM, hK, hI, hC⟩ (by rw [if_neg no]) (fun _ => rfl) (fun _ _ _ => rfl) ⟨rfl, rfl⟩⟩)
  rw [if_pos ⟨a0, a2⟩] at hQ hX
  have nA : ¬ (0 ≤ a ∧ a ≤ 2) → ∀ p : Prop, p := fun q => absurd ⟨a0, a2⟩ q
  refine x_read hT hN rfl (fun τ E M rdx k => ?_)
  have he : 1 ≤ zI τ 12 3 ∧ zA τ 12 0 (zI τ 12 3 - 1) = 0 := ⟨rdx.2.2.1, rdx.2.2.2.1⟩
  have rd := rdx.1
  obtain ⟨rS, rR, rF, rT⟩ := rd
  have o1 : ∀ g : Int, g ≠ 10 → ob (zsI τ 10 1 0) g = ob τ g := fun g hg => ob_i hg
  -- what is kept all along
  have fin : ∀ (υ : ZS) (w1 w2 : Int), kp [5, 6, 11, 12, 13, 14, 15] (zsI τ 10 1 0) υ → NR υ → LRg υ → M3 υ → (CI (zsI (zsI υ 10 2 w1) 10 3 w2) N ∧ zI (zsI (zsI υ 10 2 w1) 10 3 w2) 10 1 = 0 ∧ (∀ m : Int, 0 ≤ m → m ≤ 2 → ob (zsI (zsI υ 10 2 w1) 10 3 w2) m = ob σ m) ∧ (ob (zsI (zsI υ 10 2 w1) 10 3 w2) 17 = ob σ 17 ∧ ob (zsI (zsI υ 10 2 w1) 10 3 w2) 18 = ob σ 18)) := by
    intro υ w1 w2 uk uN uL uM
    have e10 := uk 10 (by decide)
    have t1 : zI υ 10 1 = 0 := ob_I e10 1
    have t0 : zA υ 10 0 = zA τ 10 0 := ob_A e10 0
    have kk : ∀ g : Int, g ≠ 10 → ob (zsI (zsI υ 10 2 w1) 10 3 w2) g = ob υ g := fun g hg => (ob_i hg).trans (ob_i hg)
    have c1 : ∀ g : Int, g ∉ [(5 : Int), 6, 11, 12, 13, 14, 15] → g ≠ 10 → g ∉ [(11 : Int), 12] → ob (zsI (zsI υ 10 2 w1) 10 3 w2) g = ob σ g := fun g h1 h2 h3 => ((kk g h2).trans (uk g h1)).trans ((o1 g h2).trans (k g h3))
    refine ⟨⟨⟨?_, ?_, ?_⟩, uN.k (kk 11 (by decide)), uL.k (kk 15 (by decide)), ?_, hK.k (c1 16 (by decide) (by decide) (by decide)), hI.k (c1 17 (by decide) (by decide) (by decide)), hC.k (c1 18 (by decide) (by decide) (by decide))⟩, t1, fun m m0 m2 => ?_, c1 17 (by decide) (by decide) (by decide), c1 18 (by decide) (by decide) (by decide)⟩
    · show 0 ≤ zI υ 10 1 ∧ zI υ 10 1 ≤ 480
      rw [t1]; decide
    · show ∀ i : Int, 0 ≤ i → i < 480 → 0 ≤ zA υ 10 0 i ∧ zA υ 10 0 i ≤ 126
      rw [t0, ob_A (k 10 (by decide)) 0]; exact hT.2.1
    · intro i i0 i1
      have i1' : i < zI υ 10 1 := i1
      omega
    · intro m m0 m2
      exact (uM m m0 m2).k (kk m (by omega))
    · exact c1 m (by simp only [List.mem_cons, List.not_mem_nil, or_false]; omega) (by omega) (by simp only [List.mem_cons, List.not_mem_nil, or_false]; omega)
  have lr0 : LRg (zsI τ 10 1 0) := hL.k ((o1 15 (by decide)).trans (k 15 (by decide)))
  have m30 : M3 (zsI τ 10 1 0) := hM.k (k.up (G' := [10, 11, 12]) (by decide) |>.ti (by decide)) (by decide) (by decide) (by decide)
  have hCT : CT (zA σ 10 0) (zI σ 10 1) E M (zsI τ 10 1 0) := CT.k (σ := τ) ⟨rdx, fun j j0 j1 => (hT.2.1 j j0 (by have := hT.1; omega)).2⟩ (o1 11 (by decide)) (o1 12 (by decide))
  refine t_parse hCT (fun x υ up uk hx pe => ?_)
  have pp := p_parse hCT pe hr.1 hlen.symm (fun j j0 j1 => htx j j0 (by omega))
  have u11 := uk 11 (by decide)
  have uN : NR υ := (rR.k (o1 11 (by decide))).k u11
  have uL : LRg υ := lr0.k (uk 15 (by decide))
  have uM : M3 υ := m30.k uk (by decide) (by decide) (by decide)
  unfold wpX10_tell
  refine ⟨by omega, fun xn => ?_, fun xp => hX _ _ (Or.inr (Or.inl ⟨rfl, AO5_of (a' := fun _ => 0) (b' := fun _ => 0) (c' := fun _ => 0) (r' := fun _ => 0) (X := fun _ => 0) (N := 0) hr ⟨a0, a2⟩ _ pp (fun _ _ => rfl) (fun τ' po _ => ?_) (fun z => absurd z (by decide))⟩)) (fin υ _ _ (uk.up (by decide)) uN uL uM).1 (fin υ _ _ (uk.up (by decide)) uN uL uM).2.1 (fun q => nA q _) (fin υ _ _ (uk.up (by decide)) uN uL uM).2.2.1 (fin υ _ _ (uk.up (by decide)) uN uL uM).2.2.2⟩
  rotate_left
  · exfalso
    rcases po with ⟨q, -⟩ | ⟨-, q, -⟩
    · exact absurd q (by decide)
    · exact xp q
  have poB : ∀ τ' : ZS, ((1 : Int) = 0 ∧ ¬ x < 0) ∨ ((1 : Int) = 1 ∧ x < 0 ∧ RB υ τ' (zI υ 11 5) []) → RB υ τ' (zI υ 11 5) [] := fun τ' po => by
    rcases po with ⟨q, -⟩ | ⟨-, -, q⟩
    · exact absurd q (by decide)
    · exact q
  have po0 : ∀ (cd : Int) (τ' : ZS), ((0 : Int) = 0 ∧ ¬ x < 0) ∨ ((0 : Int) = 1 ∧ x < 0 ∧ RB υ τ' (zI υ 11 5) []) → cd = 2 := fun cd τ' po => by
    rcases po with ⟨-, q⟩ | ⟨q, -⟩
    · exact absurd xn q
    · exact absurd q (by decide)
  have uS : NS υ := (rS.k (o1 11 (by decide))).k u11
  by_cases h25 : 25 ≤ zI υ 11 5
  · refine x_firstWrongC uN ((rS.k (o1 11 (by decide))).k u11) ((rF.k (o1 11 (by decide))).k u11) ⟨up.2.2.2.2.1.w, up.2.2.2.2.2.1.1⟩ uL h25 (fun y ω wy wd we wp wk => ?_)
    have k2 : kp [5, 6, 11, 12, 13, 14, 15] (zsI τ 10 1 0) ω := (uk.up (by decide)).tr (wk.up (by decide))
    have wM : M3 ω := uM.k wk (by decide) (by decide) (by decide)
    have w5 := wy.2.2.2.2.1
    exact ⟨by omega, fun neg => by omega, fun _ => hX _ _ (Or.inr (Or.inr (Or.inl ⟨rfl, AO5_of (a' := fun _ => 0) (b' := fun _ => 0) (c' := fun _ => 0) (r' := fun _ => 0) (X := fun _ => 0) (N := 0) hr ⟨a0, a2⟩ _ pp (po0 3) (fun τ' po _ => Or.inl ⟨rfl, JW_no (poB τ' po) h25⟩) (fun z => absurd z (by decide))⟩))) (fin ω _ _ k2 wy.1 wy.2.2.2.2.2.2.1 wM).1 (fin ω _ _ k2 wy.1 wy.2.2.2.2.2.2.1 wM).2.1 (fun q => nA q _) (fin ω _ _ k2 wy.1 wy.2.2.2.2.2.2.1 wM).2.2.1 (fin ω _ _ k2 wy.1 wy.2.2.2.2.2.2.1 wM).2.2.2⟩
  have h24 : zI υ 11 5 ≤ 24 := by omega
  have hm1 : zI υ 11 6 = -1 := by
    have e := hCT.1.2.2.2.2.2.2.2
    rw [← ob_I u11 5, ← ob_I u11 6] at e
    exact e h24
  refine x_firstWrong uN ((rS.k (o1 11 (by decide))).k u11) ((rF.k (o1 11 (by decide))).k u11) ⟨up.2.2.2.2.1.w, up.2.2.2.2.2.1.1⟩ uL h24 hm1 (fun y ω wy wd we wu wk w115 w137 w13 wdx wok w110 => ?_)
  have eyS : yS ω = yS υ := by unfold yS; rw [w137, w13 0 (by decide), w13 1 (by decide), w13 2 (by decide)]
  have k2 : kp [5, 6, 11, 12, 13, 14, 15] (zsI τ 10 1 0) ω := (uk.up (by decide)).tr (wk.up (by decide))
  have wM : M3 ω := uM.k wk (by decide) (by decide) (by decide)
  have w5 := wy.2.2.2.2.1
  refine ⟨by omega, fun neg => ?_, fun ng => hX _ _ (Or.inr (Or.inr (Or.inl ⟨rfl, AO5_of (a' := fun _ => 0) (b' := fun _ => 0) (c' := fun _ => 0) (r' := fun _ => 0) (X := fun _ => 0) (N := 0) hr ⟨a0, a2⟩ _ pp (po0 3) (fun τ' po _ => Or.inl ⟨rfl, fun jw => ng (wok.mpr (by rw [eyS]; exact (JW_ok (poB τ' po) h24).mp jw))⟩) (fun z => absurd z (by decide))⟩))) (fin ω _ _ k2 wy.1 wy.2.2.2.2.2.2.1 wM).1 (fin ω _ _ k2 wy.1 wy.2.2.2.2.2.2.1 wM).2.1 (fun q => nA q _) (fin ω _ _ k2 wy.1 wy.2.2.2.2.2.2.1 wM).2.2.1 (fin ω _ _ k2 wy.1 wy.2.2.2.2.2.2.1 wM).2.2.2⟩
  obtain ⟨dx, dg⟩ := wdx neg
  have yok := wok.mp neg
  have dis := up.2.2.2.2.1
  -- the items, as the class has parsed them
  have eN : (((zI ω 13 7).toNat : Nat) : Int) = zI ω 13 7 := by have := wy.sz; omega
  have eD : yF (zA ω 13 0) (zA ω 13 1) (zA ω 13 2) (zI ω 13 7).toNat = yS ω := rfl
  have typ : ∀ j : Nat, j < (zI ω 13 7).toNat → 0 ≤ zA ω 13 0 j ∧ zA ω 13 0 j ≤ 12 := fun j hj => (wy.it (i := (j : Int)) (by omega) (by omega)).1
  have gg : ∀ j : Int, 0 ≤ j → j < zI ω 13 7 → zA ω 13 5 j = gI (zA ω 13 0) (zA ω 13 1) (zA ω 13 2) j := fun j j0 j1 => dg j j0 j1
  have nm9 : ∀ j : Int, 0 ≤ j → j < zI ω 13 7 → zA ω 13 0 j ≠ 4 → zA ω 13 0 j ≠ 5 → zA ω 13 0 j ≠ 6 → 0 ≤ zA ω 13 2 j ∧ zA ω 13 2 j < zI ω 11 5 := by
    intro j j0 j1 n4 n5 n6
    obtain ⟨i1, i2, i3, i4, i5, i6, i7, i8, i9, i10⟩ := wy.it j0 j1
    exact ⟨i6 n4 n5 n6, i3.2⟩
  have w155 : zI ω 15 5 < 0 := by omega
  have hg2 : ∀ j : Int, 0 ≤ j → j < ((zI ω 13 7).toNat : Int) → (yF (zA ω 13 0) (zA ω 13 1) (zA ω 13 2) (zI ω 13 7).toNat).so (zA ω 13 2 j) = 2 → (yF (zA ω 13 0) (zA ω 13 1) (zA ω 13 2) (zI ω 13 7).toNat).sg (zA ω 13 2 j) = gI (zA ω 13 0) (zA ω 13 1) (zA ω 13 2) j → 0 ≤ gI (zA ω 13 0) (zA ω 13 1) (zA ω 13 2) j := by
    intro j j0 j1 s2 sg
    rw [eD] at s2 sg
    rw [eN] at j1
    rw [← sg]
    by_cases n : 0 ≤ zA ω 13 2 j ∧ zA ω 13 2 j < zI ω 11 5
    · obtain ⟨e1, e2, -⟩ := dx.1 _ n.1 n.2
      rw [← e2 (Or.inr s2)]
      exact ((wy.2.2.2.2.2.2.2.1 _ n.1 n.2).2.2.1 (by rw [e1]; exact s2)).2.2 w155
    · exfalso
      -- a name that no item has is nothing
      obtain ⟨i1, i2, i3, i4, i5, i6, i7, i8, i9, i10⟩ := wy.it j0 j1
      have so := (yF_so (a := zA ω 13 0) (b := zA ω 13 1) (c := zA ω 13 2) (zI ω 13 7).toNat typ yok.1 (zA ω 13 2 j)).1.mpr s2
      rcases lI_bd (a := zA ω 13 0) (c := zA ω 13 2) (n := zA ω 13 2 j) (zI ω 13 7).toNat with q | ⟨q0, q1, q2, q3⟩
      · omega
      · obtain ⟨k1, k2', k3', k4, k5, k6, k7, k8, k9, k10⟩ := wy.it q0 (by omega)
        have := k6 (by omega) (by omega) (by omega)
        rw [q3] at this
        omega
  have hcall := HJc_of (N := (zI ω 13 7).toNat) typ yok hg2
  have hlab : ∀ j : Int, 0 ≤ j → j < ((zI ω 13 7).toNat : Int) → 7 ≤ zA ω 13 0 j → (yS ω).so (zA ω 13 2 j) = 2 → 0 ≤ lI (zA ω 13 0) (zA ω 13 2) (zA ω 13 2 j) (zI ω 13 7).toNat := fun j _ _ _ s2 => (yF_so (zI ω 13 7).toNat typ yok.1 (zA ω 13 2 j)).1.mpr s2
  have h12 : ∀ j : Int, 0 ≤ j → j < ((zI ω 13 7).toNat : Int) → zA ω 13 0 j = 12 → zA ω 13 1 j = 0 := by
    intro j j0 j1 t
    rw [eN, w137] at j1
    rw [w13 0 (by decide)] at t
    rw [w13 1 (by decide)]
    exact ((dis.2.1 j j0 j1).2.2.2.2.2.2.2.2.2 (Or.inr (Or.inr t))).2.2 t
  have hjx : HJx (zA ω 13 0) (zA ω 13 1) (zA ω 13 2) (gI (zA ω 13 0) (zA ω 13 1) (zA ω 13 2)) (yS ω).so (zI ω 13 7).toNat := by
    refine HJx_of (N := (zI ω 13 7).toNat) typ yok (fun j hj t => (wy.it (i := (j : Int)) (by omega) (by omega)).2.1.1) hg2
  have zx : ZX (zA ω 13 0) (zA ω 13 1) (zA ω 13 2) (gI (zA ω 13 0) (zA ω 13 1) (zA ω 13 2)) ω := ⟨rfl, rfl, gg, fun j _ _ _ => rfl⟩
  have v2 : ∀ j : Int, 0 ≤ j → j < zI ω 13 7 → zA ω 13 0 j = 9 → zA ω 13 1 j = 2 := by
    intro j j0 j1 t
    rw [w137] at j1
    rw [w13 0 (by decide)] at t
    rw [w13 1 (by decide)]
    exact (dis.2.1 j j0 j1).2.2.2.2.2.2.2.2.1 t
  have rr : ∀ j : Int, 0 ≤ j → j < zI ω 13 7 → zA ω 13 0 j = 9 → zA ω 11 1 (zA ω 13 2 j) = (yS ω).so (zA ω 13 2 j) := fun j j0 j1 t => by
    have n := nm9 j j0 j1 (by omega) (by omega) (by omega)
    exact (dx.1 _ n.1 n.2).1
  refine x_sizeJumps (r := (yS ω).so) ⟨wy, wd, wu neg, by omega⟩ zx rr hjx v2 (fun z ψ pz pk pe ph pfz pzx pmz pcl ple => ?_)
  have p7 : zI ψ 13 7 = zI ω 13 7 := pfz.2.1 7
  have e154 : zI ψ 15 4 = zI ω 15 4 := pfz.2.2.1 4
  have s60 := wy.2.2.2.1
  -- the reference, behind its parse
  have ref : ∀ (cd w : Int) (PM : ZS → Prop), ((cd = 4 ∧ 400 < z) ∨ (z ≤ 400 ∧ ((cd = 5 ∧ ∃ j : Int, 0 ≤ j ∧ j < zI ω 13 7 ∧ zA ω 13 0 j = 10 ∧ ¬ Sh (dS (zA ω 13 0) (zA ω 13 1) (zA ω 13 2) (gI (zA ω 13 0) (zA ω 13 1) (zA ω 13 2)) (xF ψ) (zI ω 13 7).toNat j)) ∨ (cd = 0 ∧ (∀ j : Int, 0 ≤ j → j < zI ω 13 7 → zA ω 13 0 j = 10 → Sh (dS (zA ω 13 0) (zA ω 13 1) (zA ω 13 2) (gI (zA ω 13 0) (zA ω 13 1) (zA ω 13 2)) (xF ψ) (zI ω 13 7).toNat j)) ∧ w = z)))) → (cd = 0 → ∀ υ' τ' : ZS, RB υ υ' (zI υ 11 5) [] → SUC (zA ω 13 0) (zA ω 13 1) (zA ω 13 2) (yS ω).so (zI ω 13 7).toNat (xF ψ) υ' a τ' → PM τ') → AO5 ρ a cd w N' PM := by
    intro cd w PM out hpm
    refine AO5_of (a' := zA ω 13 0) (b' := zA ω 13 1) (c' := zA ω 13 2) (r' := (yS ω).so) (X := xF ψ) (N := (zI ω 13 7).toNat) hr ⟨a0, a2⟩ _ pp (po0 cd) (fun τ' po g => Or.inr ?_) (fun z υ' τ' po sc => hpm z υ' τ' (poB υ' po) sc)
    have rb := poB τ' po
    have jw := (JW_ok rb h24).mpr (by rw [← eyS]; exact yok)
    obtain ⟨-, ⟨b1, b2⟩, b3, b4⟩ := rb
    obtain ⟨c1, c2, c3⟩ := b4 h24
    rw [← eyS] at c1 c2
    have sume : psum (fun s => oS (zA ω 13 0) (zA ω 13 1) (gI (zA ω 13 0) (zA ω 13 1) (zA ω 13 2)) (xF ψ) s (zI ω 13 7).toNat) (zI τ' 0 34).toNat = z := by
      rw [pe, c1.2.2.1, e154, dx.2.1]
      exact (psum_ext _ (fun s s0 s1 => pmz.1 s s0 (by have := dx.2.1; omega))).symm
    refine ⟨jw, ⟨typ, yok.1, c2⟩, fun j j0 j1 t => ?_, hjx, pcl, ple, ⟨hlab, hcall, h12⟩, ?_⟩
    · rw [eN] at j1
      have n := nm9 j j0 j1 (by omega) (by omega) (by omega)
      rw [w115] at n
      exact (c1.1 _ n.1 n.2).1
    · rw [sume, eN]
      exact out
  have k3 : kp [5, 6, 11, 12, 13, 14, 15] (zsI τ 10 1 0) ψ := k2.tr (pk.up (by decide))
  have pM : M3 ψ := wM.k pk (by decide) (by decide) (by decide)
  refine ⟨by omega, fun le => ?_, fun gt => hX _ _ (Or.inr (Or.inr (Or.inr (Or.inl ⟨rfl, ref 4 0 (fun _ => True) (Or.inl ⟨rfl, by omega⟩) (fun z => absurd z (by decide))⟩)))) (fin ψ _ _ k3 pz.1.1 pz.1.2.2.2.2.2.2.1 pM).1 (fin ψ _ _ k3 pz.1.1 pz.1.2.2.2.2.2.2.1 pM).2.1 (fun q => nA q _) (fin ψ _ _ k3 pz.1.1 pz.1.2.2.2.2.2.2.1 pM).2.2.1 (fin ψ _ _ k3 pz.1.1 pz.1.2.2.2.2.2.2.1 pM).2.2.2⟩
  have wpl : ∀ j : Int, 0 ≤ j → j < zI ψ 13 7 → zA ω 13 0 j = 10 → 0 ≤ zA ψ 13 4 j := by
    intro j j0 j1 t
    obtain ⟨i1, i2, i3, i4, i5, i6, i7, i8, i9, i10⟩ := pz.1.it j0 j1
    have t' : zA ψ 13 0 j = 10 := by rw [pzx.1]; exact t
    exact (i10 (Or.inr (Or.inl t'))).2.1 t'
  have sz15 : ∀ s : Int, 0 ≤ s → s < 60 → zA ψ 15 3 s = oS (zA ω 13 0) (zA ω 13 1) (gI (zA ω 13 0) (zA ω 13 1) (zA ω 13 2)) (xF ψ) s (zI ω 13 7).toNat := fun s s0 s1 => pmz.1 s s0 s1
  have ns60 : 0 ≤ zI ψ 15 4 ∧ zI ψ 15 4 ≤ 60 := pz.1.2.2.2.1
  have st15 : ∀ s : Int, 0 ≤ s → s ≤ zI ψ 15 4 → psum (zA ψ 15 3) s.toNat = stS (zA ω 13 0) (zA ω 13 1) (gI (zA ω 13 0) (zA ω 13 1) (zA ω 13 2)) (xF ψ) (zI ω 13 7).toNat s := fun s s0 s1 => psum_ext _ (fun j j0 j1 => sz15 j j0 (by omega))
  have hWX : WX (zA ω 13 0) (zA ω 13 1) (zA ω 13 2) (gI (zA ω 13 0) (zA ω 13 1) (zA ω 13 2)) (yS ω).so (zI ω 13 7).toNat a ψ := by
    refine ⟨pz, pzx, by rw [p7]; exact pmz, hjx, by rw [p7]; exact eN.symm, fun n n0 n1 => ?_, fun s s0 s1 => ?_, hcall, fun n n0 n1 s2 => ?_⟩
    · rw [pfz.1 5] at n1
      rw [pfz.2.2.2.1 1 (by decide)]
      exact (dx.1 n n0 n1).1
    · rw [← st_s s0, ← st15 (s + 1) (by omega) (by omega)]
      have m1 := psum_mono (f := zA ψ 15 3) (m := (s + 1).toNat) (zI ψ 15 4).toNat (by omega) (fun j j0 j1 => (pz.1.2.2.2.2.2.2.1 j j0 (by omega)).2.1)
      omega
    · rw [pfz.1 5] at n1
      have so := yF_so (a := zA ω 13 0) (b := zA ω 13 1) (c := zA ω 13 2) (zI ω 13 7).toNat typ yok.1 n
      have d1 := dx.1 n n0 n1
      have s2' : (yS ω).so n = 2 := s2
      refine ⟨so.1.mpr s2, ?_⟩
      rw [← so.2 s2]
      show 0 ≤ (yS ω).sg n
      rw [← d1.2.1 (Or.inr s2')]
      exact ((wy.2.2.2.2.2.2.2.1 n n0 n1).2.2.1 (by rw [d1.1]; exact s2')).2.2 w155
  refine x_firstTooFar (r := (yS ω).so) pz pzx (by rw [p7]; exact pmz) (by rw [p7]; exact hjx) wpl (fun f hf ftf => ?_)
  rw [p7] at ftf
  refine ⟨by omega, fun fn => ⟨by omega, x_write (N := (zI ω 13 7).toNat) ⟨a0, a2⟩ hWX (by rw [← pe]; exact le) (by rw [pfz.1 5, w115]; exact h24) (fun i i0 i1 t x0 => (pcl i i0 i1 t x0).1) (fun χ xm xk x0 xg xc xp => ?_)⟩, fun fp => hX _ _ (Or.inr (Or.inr (Or.inr (Or.inr ⟨rfl, ref 5 0 (fun _ => True) (Or.inr ⟨le, Or.inl ⟨rfl, ?_⟩⟩) (fun z => absurd z (by decide))⟩)))) (fin ψ _ _ k3 pz.1.1 pz.1.2.2.2.2.2.2.1 pM).1 (fin ψ _ _ k3 pz.1.1 pz.1.2.2.2.2.2.2.1 pM).2.1 (fun q => nA q _) (fin ψ _ _ k3 pz.1.1 pz.1.2.2.2.2.2.2.1 pM).2.2.1 (fin ψ _ _ k3 pz.1.1 pz.1.2.2.2.2.2.2.1 pM).2.2.2⟩
  rotate_left
  · refine Classical.byContradiction (fun no => fp (ftf.mpr (fun j j0 j1 t => Classical.byContradiction (fun ns => no ⟨j, j0, j1, t, ns⟩))))
  -- written
  have na : ∀ g : Int, 3 ≤ g → g ∉ [a] := fun g hg => n_1 (by omega)
  have kk : ∀ g : Int, g ≠ 10 → ob (zsI (zsI χ 10 2 (-1)) 10 3 (-1)) g = ob χ g := fun g hg => (ob_i hg).trans (ob_i hg)
  have f1 := fin ψ (-1) (-1) k3 pz.1.1 pz.1.2.2.2.2.2.2.1 pM
  have same : ∀ g : Int, 3 ≤ g → ob (zsI (zsI χ 10 2 (-1)) 10 3 (-1)) g = ob (zsI (zsI ψ 10 2 (-1)) 10 3 (-1)) g := by
    intro g hg
    by_cases e : g = 10
    · have e10 := xk 10 (na 10 (by decide))
      rw [e]
      unfold ob at e10 ⊢
      have e1 := congrArg Prod.fst e10
      have e2 := congrArg Prod.snd e10
      refine Prod.ext (funext fun f => ?_) e2
      have q := congrFun e1 f
      show (if (10 : Int) = 10 then (if f = 3 then (-1 : Int) else (if (10 : Int) = 10 then (if f = 2 then (-1 : Int) else χ.1 10 f) else χ.1 10 f)) else (if (10 : Int) = 10 then (if f = 2 then (-1 : Int) else χ.1 10 f) else χ.1 10 f)) = (if (10 : Int) = 10 then (if f = 3 then (-1 : Int) else (if (10 : Int) = 10 then (if f = 2 then (-1 : Int) else ψ.1 10 f) else ψ.1 10 f)) else (if (10 : Int) = 10 then (if f = 2 then (-1 : Int) else ψ.1 10 f) else ψ.1 10 f))
      rw [show χ.1 10 f = ψ.1 10 f from q]
    · rw [(ob_i e).trans (ob_i e), (ob_i e).trans (ob_i e)]; exact xk g (na g hg)
  have mlx : ∀ υ' τ' : ZS, RB υ υ' (zI υ 11 5) [] → SUC (zA ω 13 0) (zA ω 13 1) (zA ω 13 2) (yS ω).so (zI ω 13 7).toNat (xF ψ) υ' a τ' → MLx (zsI (zsI χ 10 2 (-1)) 10 3 (-1)) τ' a := by
    intro υ' τ' rb sc
    obtain ⟨q1, q2, q3, q4, q5⟩ := sc
    obtain ⟨-, ⟨-, rw0⟩, -, b4⟩ := rb
    obtain ⟨k1, -, k3⟩ := b4 h24
    rw [← eyS] at k1 k3
    have ea := kk a (by omega)
    have ens : zI υ' 0 34 = zI ψ 15 4 := by rw [k1.2.2.1, e154, dx.2.1]
    have tgt : ∀ i : Int, 0 ≤ i → i < zI ω 13 7 → 7 ≤ zA ω 13 0 i → zA ψ 11 2 (zA ω 13 2 i) = (if zA υ' 0 13 (zA ω 13 2 i) = 3 then -1 else zA υ' 0 14 (zA ω 13 2 i)) := by
      intro i i0 i1 t
      have n := nm9 i i0 i1 (by omega) (by omega) (by omega)
      have d1 := dx.1 _ n.1 n.2
      have y1 := k1.1 _ n.1 (by rw [← w115]; exact n.2)
      have ne : (yS ω).so (zA ω 13 2 i) ≠ 0 := so_ne typ yok i0 (by omega) t
      have rg := (wy.1 _ n.1 (by have := wy.2.1.1; omega)).2.1
      rw [pfz.2.2.2.1 2 (by decide), y1.1]
      by_cases s3 : (yS ω).so (zA ω 13 2 i) = 3
      · rw [if_pos s3]
        exact (wy.2.2.2.2.2.2.2.1 _ n.1 n.2).2.2.2 (by rw [d1.1]; exact s3)
      · have s12 : (yS ω).so (zA ω 13 2 i) = 1 ∨ (yS ω).so (zA ω 13 2 i) = 2 := by
          rw [d1.1] at rg
          omega
        rw [if_neg s3, d1.2.1 s12, y1.2.1 s12]
    -- words
    have e0 : zA ψ 11 0 = zA υ 11 0 := (pfz.2.2.2.1 0 (by decide)).trans w110
    have wd : ∀ n : Int, 0 ≤ n → n < zI ω 11 5 → RW (zA υ' 0 12 n) (zA ψ 11 0 n) := fun n n0 n1 => by rw [e0]; exact rw0 n n0 (by rw [← w115]; exact n1)
    have inj : ∀ n n' : Int, 0 ≤ n → n < zI ω 11 5 → 0 ≤ n' → n' < zI ω 11 5 → zA ψ 11 0 n = zA ψ 11 0 n' → n = n' := by
      intro n n' a1 a2 a3 a4 e
      rw [e0] at e
      have nd := hCT.1.2.2.2.2.2.2.1
      rw [← ob_I u11 5, ← ob_A u11 0] at nd
      exact nd n n' a1 (by rw [← w115]; exact a2) a3 (by rw [← w115]; exact a4) e
    -- a public's name
    have pb : ∀ j : Int, 0 ≤ j → j < zI ω 13 7 → zA ω 13 0 j = 2 → (0 ≤ zA ω 13 2 j ∧ zA ω 13 2 j < zI ω 11 5) ∧ zA υ' 0 14 (zA ω 13 2 j) = zA ψ 11 2 (zA ω 13 2 j) ∧ 0 ≤ lI (zA ω 13 0) (zA ω 13 2) (zA ω 13 2 j) (zI ω 13 7).toNat ∧ loS (zA ω 13 0) (zA ω 13 1) (zA ω 13 2) (gI (zA ω 13 0) (zA ω 13 1) (zA ω 13 2)) (xF ψ) (zI ω 13 7).toNat (zA ω 13 2 j) = zA ψ 11 4 (zA ω 13 2 j) := by
      intro j j0 j1 t
      have n := nm9 j j0 j1 (by omega) (by omega) (by omega)
      have d1 := dx.1 _ n.1 n.2
      have y1 := k1.1 _ n.1 (by rw [← w115]; exact n.2)
      have s2 : (yS ω).so (zA ω 13 2 j) = 2 := (uOK_at typ yok j j0 (by omega)).1 (by rw [t]; rfl)
      have lb := hWX.2.2.2.2.2.2.2.2 (zA ω 13 2 j) n.1 (by rw [pfz.1 5]; exact n.2) s2
      refine ⟨n, ?_, lb.1, ?_⟩
      · rw [pfz.2.2.2.1 2 (by decide), y1.2.1 (Or.inr s2), d1.2.1 (Or.inr s2)]
      · exact (pmz.2.2 _ lb.1 lb.2).symm
    have us := yF_pub (a := zA ω 13 0) (b := zA ω 13 1) (c := zA ω 13 2) (zI ω 13 7).toNat typ
    have uu : zI υ' 0 23 = (yS ω).u.nu ∧ ∀ i : Int, 0 ≤ i → i < (yS ω).u.nu → zA υ' 0 19 i = (yS ω).u.uk i ∧ zA υ' 0 20 i = (yS ω).u.un i := ⟨k3.1, fun i i0 i1 => ⟨(k3.2 i i0 i1).1, (k3.2 i i0 i1).2.1⟩⟩
    obtain ⟨pn, gi, p1, p2⟩ := xp
    have pf : ∀ k : Int, 0 ≤ k → k < zA τ' 0 56 a → ∃ q : Int, (0 ≤ q ∧ q < zI χ a 13) ∧ RW (zA τ' 0 57 (80 * a + k)) (zA χ a 14 q) ∧ zA τ' 0 58 (80 * a + k) = zA χ a 15 q ∧ zA τ' 0 59 (80 * a + k) = zA χ a 16 q := by
      intro k k0 k1'
      obtain ⟨u, u1, u2, u3, u4, u5⟩ := q4 k k0 k1'
      obtain ⟨v1, v2⟩ := uu.2 u u1.1 (by rw [← uu.1]; exact u1.2)
      obtain ⟨j, j1, j2, j3⟩ := us.1 u u1.1 (show u < (yS ω).u.nu by rw [← uu.1]; exact u1.2) (show (yS ω).u.uk u = 0 by rw [← v1]; exact u2)
      have en : zA υ' 0 20 u = zA ω 13 2 j := v2.trans j3.symm
      obtain ⟨w1, w2, w3, w4⟩ := pb j j1.1 (by omega) j2
      obtain ⟨q, qb, qw⟩ := p2 j j1.1 j1.2 j2
      obtain ⟨⟨x1, -⟩, ⟨x3, x4, x5⟩, -⟩ := p1 q qb.1 qb.2
      have same : pn q = zA ω 13 2 j := inj _ _ x1.1 (by rw [← pfz.1 5]; exact x1.2) w1.1 w1.2 (x3.symm.trans qw)
      rw [en] at u3 u4 u5
      refine ⟨q, qb, ?_, ?_, ?_⟩
      · rw [u3, x3, same]; exact wd _ w1.1 w1.2
      · rw [u4, x4, same]; exact w2
      · rw [u5 w3, x5, same]; exact w4
    have pr : ∀ q : Int, 0 ≤ q → q < zI χ a 13 → ∃ k : Int, (0 ≤ k ∧ k < zA τ' 0 56 a) ∧ RW (zA τ' 0 57 (80 * a + k)) (zA χ a 14 q) ∧ zA τ' 0 58 (80 * a + k) = zA χ a 15 q ∧ zA τ' 0 59 (80 * a + k) = zA χ a 16 q := by
      intro q q0 q1'
      obtain ⟨⟨x1, -⟩, ⟨x3, x4, x5⟩, j, j1, j2, j3⟩ := p1 q q0 q1'
      obtain ⟨w1, w2, w3, w4⟩ := pb j j1.1 (by omega) j2
      have ej : ((j.toNat : Nat) : Int) = j := by omega
      obtain ⟨u, u1, u2, u3⟩ := us.2 j.toNat (by omega) (by rw [ej]; exact j2)
      rw [ej] at u3
      obtain ⟨v1, v2⟩ := uu.2 u u1.1 u1.2
      have en : zA υ' 0 20 u = zA ω 13 2 j := v2.trans u3
      obtain ⟨k, kb, k4, k5, k6⟩ := q5 u u1.1 (by rw [uu.1]; exact u1.2) (by rw [v1]; exact u2)
      rw [en] at k4 k5 k6
      refine ⟨k, kb, ?_, ?_, ?_⟩
      · rw [k4, x3, ← j3]; exact wd _ w1.1 w1.2
      · rw [k5, x4, ← j3]; exact w2
      · rw [k6 w3, x5, ← j3]; exact w4
    have pd : ∀ q q' : Int, 0 ≤ q → q < zI χ a 13 → 0 ≤ q' → q' < zI χ a 13 → zA χ a 14 q = zA χ a 14 q' → q = q' := by
      intro q q' a1 a2 a3 a4 e
      obtain ⟨⟨x1, x2⟩, ⟨x3, -, -⟩, -⟩ := p1 q a1 a2
      obtain ⟨⟨y1, y2⟩, ⟨y3, -, -⟩, -⟩ := p1 q' a3 a4
      have same : pn q = pn q' := inj _ _ x1.1 (by rw [← pfz.1 5]; exact x1.2) y1.1 (by rw [← pfz.1 5]; exact y1.2) (by rw [← x3, ← y3]; exact e)
      rw [← x2, ← y2, same]
    have p2k : ∀ k : Int, 0 ≤ k → k < zI χ a 7 → zA χ a 8 k = 2 → zA χ a 11 k < 0 := by
      intro k k0 k1' y
      rw [xc.2.1] at k1'
      obtain ⟨x1, -, -, x4, -⟩ := xc.2.2 k k0 k1'
      rw [x1] at y
      have r3 := mK_k (zI ω 13 7).toNat k k0 k1' y
      obtain ⟨i, i1, i2, i3⟩ := mK_fn (zI ω 13 7).toNat k k0 k1'
      rw [i3] at r3
      have n := nm9 i i1.1 (by omega) (by omega) (by omega) (by omega)
      have d1 := dx.1 _ n.1 n.2
      rw [x4, i3, pfz.2.2.2.1 2 (by decide), (wy.2.2.2.2.2.2.2.1 _ n.1 n.2).2.2.2 (by rw [d1.1]; exact r3)]
      decide
    unfold MLx
    rw [ob_I ea 1, ob_I ea 7, ob_I ea 13, ob_A ea 2, ob_A ea 3, ob_A ea 4, ob_A ea 5, ob_A ea 6, ob_A ea 8, ob_A ea 9, ob_A ea 10, ob_A ea 11, ob_A ea 12, ob_A ea 14, ob_A ea 15, ob_A ea 16]
    refine ⟨⟨by rw [xg.1, q1, ens], fun s s0 s1 => ?_⟩, fun j j0 j1 => by rw [q3.1 j j0 j1, xc.1 j j0 j1], ⟨by rw [xc.2.1, q3.2.1], fun k k0 k1' => ?_⟩, pf, pr, pd, p2k⟩
    · rw [xg.1] at s1
      obtain ⟨x2, x3, x4, x5⟩ := xg.2 s s0 s1
      obtain ⟨y1, y2, y3, y4⟩ := q2 s s0 (by omega)
      have sn1 : zA ψ 15 2 s = (yS ω).sn s := by rw [pfz.2.2.2.2.2 2 (by decide)]; exact dx.2.2.1 s s0 (by rw [← dx.2.1, ← e154]; exact s1)
      have sn2 : zA υ' 0 35 s = (yS ω).sn s := k1.2.2.2.1 s s0 (by rw [← dx.2.1, ← e154]; exact s1)
      obtain ⟨z1, z2, z3⟩ := wy.2.2.2.2.2.2.2.2 s s0 (by rw [← e154]; exact s1)
      have sn3 : zA ω 15 2 s = (yS ω).sn s := dx.2.2.1 s s0 (by rw [← dx.2.1, ← e154]; exact s1)
      rw [sn3] at z1 z2
      have d1 := dx.1 _ z1.1 z1.2
      have o1 := k1.1 _ z1.1 (by rw [← w115]; exact z1.2)
      have so1 : (yS ω).so ((yS ω).sn s) = 1 := by rw [← d1.1]; exact z2
      rw [x2, x3, x4, x5, y1, y2, y3, y4, sz15 s s0 (by omega), st15 s s0 (by omega), sn1, sn2, pfz.2.2.2.1 3 (by decide), d1.2.2 so1, o1.2.2 so1]
      exact ⟨rfl, rfl, rfl, wd _ z1.1 z1.2⟩
    · rw [xc.2.1] at k1'
      obtain ⟨x1, x2, x3, x4, x5⟩ := xc.2.2 k k0 k1'
      obtain ⟨y1, y2, y3, y4, y5⟩ := q3.2.2 k k0 k1'
      obtain ⟨i, i1, i2, i3⟩ := mK_fn (zI ω 13 7).toNat k k0 k1'
      have n := nm9 i i1.1 (by omega) (by omega) (by omega) (by omega)
      rw [x1, x2, x3, x4, x5, y1, y2, y3, y4, y5, i3, tgt i i1.1 (by omega) i2]
      exact ⟨rfl, rfl, rfl, rfl, wd _ n.1 n.2⟩
  have fxm : FXm (zsI (zsI χ 10 2 (-1)) 10 3 (-1)) a := by
    have fi := mK_fi (a := zA ω 13 0) (b := zA ω 13 1) (c := zA ω 13 2) (g := gI (zA ω 13 0) (zA ω 13 1) (zA ω 13 2)) (X := xF ψ) (r := (yS ω).so) (N := (zI ω 13 7).toNat) (fun j hj t => (wy.it (i := (j : Int)) (by omega) (by omega)).2.1.1) (zI ω 13 7).toNat (Nat.le_refl _)
    refine FXm.k (σ := χ) (fun k k0 k1 ks => ?_) (kk a (by omega))
    rw [xc.2.1] at k1
    obtain ⟨x1, x2, x3, -⟩ := xc.2.2 k k0 k1
    obtain ⟨⟨f1, f2⟩, f3, f4, f5⟩ := fi k k0 k1
    rw [x2, xg.1] at ks
    obtain ⟨-, -, y4, y5⟩ := xg.2 _ f1 ks
    have ss := sz15 _ f1 (by omega)
    have st := st15 _ f1 (by omega)
    have sg := xm.2.2.2.2.1 _ f1 (by rw [xg.1]; exact ks)
    obtain ⟨-, -, s4, s5, s6⟩ := sg
    rw [y4, ss] at s4 s6
    rw [y5, st] at s5 s6
    rw [x1, x2, x3, y5, st]
    refine ⟨fun nz => ?_, fun k' l1 l2 es => ?_⟩
    · rw [xc.1 _ (by omega) (by omega), xc.1 _ (by omega) (by omega)]
      exact f4 nz
    · rw [xc.2.1] at l2
      obtain ⟨-, w2, w3, -⟩ := xc.2.2 k' (by omega) l2
      rw [w2] at es
      rw [w3]; exact f5 k' l1 l2 es
  obtain ⟨⟨c1, c2, c3, c4, c5, c6, c7⟩, c8, c9, c10⟩ := f1
  refine hQ z _ ⟨c1.k (same 10 (by decide)), c2.k (same 11 (by decide)), c3.k (same 15 (by decide)), fun m m0 m2 => ?_, c5.k (same 16 (by decide)), c6.k (same 17 (by decide)), c7.k (same 18 (by decide))⟩ ((ob_I (same 10 (by decide)) 1).trans c8) (fun q => nA q _) (ref 0 z _ (Or.inr ⟨le, Or.inr ⟨rfl, ftf.mp fn, rfl⟩⟩) (fun _ => mlx)) ⟨a0, a2⟩ (fun m m0 m2 ne => ?_) ?_ fxm ⟨(same 17 (by decide)).trans c10.1, (same 18 (by decide)).trans c10.2⟩
  · by_cases e : m = a
    · rw [e]; exact xm.k (kk a (by omega))
    · exact (pM m m0 m2).k ((kk m (by omega)).trans (xk m (n_1 e)))
  · exact ((kk m (by omega)).trans (xk m (n_1 ne))).trans ((((ob_i (show m ≠ 10 by omega)).trans (ob_i (show m ≠ 10 by omega))).symm).trans (c9 m m0 m2))
  · exact (ob_I (kk a (by omega)) 0).trans x0
