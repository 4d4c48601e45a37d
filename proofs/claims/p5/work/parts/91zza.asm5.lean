/-! X: the reference's assemble tells the module that it writes -/
/-- what comes of sizes, told with its items -/
def SDp (a b c r : Int → Int) (N : Nat) (X : Int → Int) (cd w : Int) (τ : ZS) : Prop := PX a b c N τ ∧ (∀ j : Int, 0 ≤ j → j < N → 7 ≤ a j → zA τ 0 13 (c j) = r (c j)) ∧ HJx a b c (gI a b c) r N ∧ Cl a b c (gI a b c) r X N ∧ Le a b c (gI a b c) r X N ∧ ((∀ j : Int, 0 ≤ j → j < N → 7 ≤ a j → r (c j) = 2 → 0 ≤ lI a c (c j) N) ∧ (∀ j : Int, 0 ≤ j → j < N → a j = 11 → r (c j) = 3 ∨ (0 ≤ lI a c (c j) N ∧ gI a b c (lI a c (c j) N) = gI a b c j ∧ 0 ≤ gI a b c j)) ∧ (∀ j : Int, 0 ≤ j → j < N → a j = 12 → b j = 0)) ∧ ((cd = 4 ∧ 400 < psum (fun s => oS a b (gI a b c) X s N) (zI τ 0 34).toNat) ∨ (psum (fun s => oS a b (gI a b c) X s N) (zI τ 0 34).toNat ≤ 400 ∧ ((cd = 5 ∧ ∃ j : Int, 0 ≤ j ∧ j < N ∧ a j = 10 ∧ ¬ Sh (dS a b c (gI a b c) X N j)) ∨ (cd = 0 ∧ (∀ j : Int, 0 ≤ j → j < N → a j = 10 → Sh (dS a b c (gI a b c) X N j)) ∧ w = psum (fun s => oS a b (gI a b c) X s N) (zI τ 0 34).toNat))))
/-- module m, as it is written from what was parsed (τ) -/
def SUC (a b c r : Int → Int) (N : Nat) (X : Int → Int) (τ : ZS) (m : Int) (υ : ZS) : Prop := zA υ 0 44 m = zI τ 0 34 ∧ (∀ s : Int, 0 ≤ s → s < zI τ 0 34 → zA υ 0 47 (24 * m + s) = stS a b (gI a b c) X N s ∧ zA υ 0 48 (24 * m + s) = oS a b (gI a b c) X s N ∧ zA υ 0 46 (24 * m + s) = zA τ 0 15 (zA τ 0 35 s) ∧ zA υ 0 45 (24 * m + s) = zA τ 0 12 (zA τ 0 35 s)) ∧ MQr τ m υ (mK a b c (gI a b c) X r N N) ∧ (∀ k : Int, 0 ≤ k → k < zA υ 0 56 m → ∃ u : Int, (0 ≤ u ∧ u < zI τ 0 23) ∧ zA τ 0 19 u = 0 ∧ zA υ 0 57 (80 * m + k) = zA τ 0 12 (zA τ 0 20 u) ∧ zA υ 0 58 (80 * m + k) = zA τ 0 14 (zA τ 0 20 u) ∧ (0 ≤ lI a c (zA τ 0 20 u) N → zA υ 0 59 (80 * m + k) = loS a b c (gI a b c) X N (zA τ 0 20 u))) ∧ (∀ u : Int, 0 ≤ u → u < zI τ 0 23 → zA τ 0 19 u = 0 → ∃ k : Int, (0 ≤ k ∧ k < zA υ 0 56 m) ∧ zA υ 0 57 (80 * m + k) = zA τ 0 12 (zA τ 0 20 u) ∧ zA υ 0 58 (80 * m + k) = zA τ 0 14 (zA τ 0 20 u) ∧ (0 ≤ lI a c (zA τ 0 20 u) N → zA υ 0 59 (80 * m + k) = loS a b c (gI a b c) X N (zA τ 0 20 u)))
theorem OY.pre {m : Int} {σ γ τ : ZS} (e : ∀ f : Nat, f ∈ WA → zA γ 0 f = zA σ 0 f) (h : OY m γ τ) : OY m σ τ := by
  unfold OY OU OV at h ⊢
  rw [e 43 (by decide), e 44 (by decide), e 50 (by decide), e 56 (by decide), e 46 (by decide), e 47 (by decide), e 48 (by decide), e 51 (by decide), e 52 (by decide), e 53 (by decide), e 54 (by decide), e 58 (by decide), e 59 (by decide), e 45 (by decide), e 49 (by decide), e 55 (by decide), e 57 (by decide)] at h
  exact h
theorem x_assemble5 {σ : ZS} {a cd w : Int} {Q : Int → ZS → Prop} {a' b' c' r' X : Int → Int} {N : Nat} (hR : RA σ) (hA : 0 ≤ a ∧ a ≤ 2) (PO : Int → ZS → Prop) (hparse : ∀ Qp : Int → ZS → Prop, (∀ (r : Int) (τ : ZS), GG τ → fr PF PA (zsI σ 0 0 0) τ → (r = 0 ∨ r = 1) → PO r τ → Qp r τ) → wpX11_parse (zsI σ 0 0 0) Qp) (hD0 : ∀ τ : ZS, PO 0 τ → cd = 2) (hD1 : ∀ τ : ZS, PO 1 τ → GG τ → (cd = 3 ∧ ¬ JW τ) ∨ (JW τ ∧ SDp a' b' c' r' N X cd w τ)) (hQ : ∀ (r : Int) (τ : ZS), RA τ → fr AF AA σ τ → (0 ≤ r ∧ r ≤ 400) → zI τ 0 2 = 0 → zI τ 0 0 = cd → (cd = 0 → r = w) → ((cd ≠ 0 → ∀ f : Nat, f ∈ WA → zA τ 0 f = zA σ 0 f) ∧ (cd = 0 → zA τ 0 43 = zu (zA σ 0 43) a 1 ∧ OY a σ τ ∧ ∃ υ : ZS, PO 1 υ ∧ SUC a' b' c' r' N X υ a τ)) → Q r τ) : wpX11_assemble a σ Q := by
  unfold wpX11_assemble
  refine ⟨by omega, fun n => absurd n (by omega), fun nn => ⟨fun le => ?_, fun nle => absurd hA.2 nle⟩⟩
  obtain ⟨hP, hO, hG, hM⟩ := hR
  have hPz : PA0 (zsI σ 0 0 0) := hP
  refine hparse _ (fun r τ g hf hr po => ?_)
  have hf1 : fr AF AA σ τ := (show fr AF AA σ (zsI σ 0 0 0) from fr.i (by decide)).tr (hf.up (by decide) (by decide))
  have hw1 : ∀ j : Nat, j ∈ WA → zA τ 0 j = zA σ 0 j := fun j hj => hf.2 j (fun q => absurd hj ((show ∀ k ∈ PA, k ∉ WA by decide) j q))
  have hO1 : OFs τ := hO.up (hf.2 16 (by decide))
  have hG1 : GM τ := hG.up hw1
  have hM1 : ∀ n : Int, 0 ≤ n → n ≤ 2 → MI τ n := fun n a b => (hM n a b).up hw1
  obtain ⟨pT, pL, p1, p2, p3, p4⟩ := g.pa0
  have hP1 : PA0 (zsI τ 0 2 0) := ⟨⟨(show (0 : Int) ≤ 0 ∧ (0 : Int) ≤ 480 from ⟨by decide, by decide⟩), fun j j0 j1 => absurd j1 (by show ¬ j < 0; omega), pT.2.2⟩, pL, p1, p2, p3, p4⟩
  have hAI := g.ai
  refine ⟨by omega, fun n0 => ?_, fun r0 => hQ 0 _ ⟨hP1, hO1, hG1, hM1⟩ ((hf1.ti (by decide)).ti (by decide)) (by decide) rfl (by rw [r0] at po; exact (hD0 τ po).symm) (fun q => by rw [r0] at po; have := hD0 τ po; omega) ⟨fun _ f hf' => hw1 f hf', fun q => by rw [r0] at po; have := hD0 τ po; omega⟩⟩
  have po1 : PO 1 τ := by rw [show r = 1 by omega] at po; exact po
  have d1 := hD1 τ po1 g
  obtain ⟨α, hα⟩ : ∃ α, α = zsI τ 0 2 0 := ⟨_, rfl⟩
  have hfα : fr AF AA σ α := by rw [hα]; exact hf1.ti (by decide)
  have hOα : OFs α := by rw [hα]; exact hO1
  have hGα : GM α := by rw [hα]; exact hG1
  have hMα : ∀ n : Int, 0 ≤ n → n ≤ 2 → MI α n := by rw [hα]; exact hM1
  have hzα : zI α 0 2 = 0 := by rw [hα]; rfl
  rw [← hα] at hP1 hAI
  rw [← hα]
  have jwα : JW α ↔ JW τ := by rw [hα]; exact Iff.rfl
  have yα : ∀ (f : Nat), zA α 0 f = zA τ 0 f := by rw [hα]; exact fun _ => rfl
  have iα : ∀ (f : Nat), f ≠ 2 → zI α 0 f = zI τ 0 f := by rw [hα]; exact fun f hf' => zI_f hf'
  refine x_judge hAI (fun β hB hfβ hj => ?_)
  have iβ : ∀ f : Nat, f ≠ 18 → zI β 0 f = zI α 0 f := fun f hf' => hfβ.1 f (by simpa using hf')
  have aβ : ∀ j : Nat, zA β 0 j = zA α 0 j := fun j => hfβ.2 j (by simp)
  have hBf : fr AF AA σ β := hfα.tr (hfβ.up (by decide) (by decide))
  have h3β : G3 β := hB.2.2.2.2.1
  have hPβ : PA0 β := hP1.up (fun f hf' => iβ f (fun e => hf' (by rw [e]; decide))) (fun j _ => aβ j) h3β
  have hOβ : OFs β := hOα.up (aβ 16)
  have hGβ : GM β := hGα.up (fun j _ => aβ j)
  have hMβ : ∀ n : Int, 0 ≤ n → n ≤ 2 → MI β n := fun n x y => (hMα n x y).up (fun j _ => aβ j)
  have h2β : zI β 0 2 = 0 := by rw [iβ 2 (by decide)]; exact hzα
  obtain ⟨⟨c17, c23, c31, c34, c18, ccn⟩, cw, g1, g2, g3, g4, g5, g6⟩ := hB
  refine ⟨by omega, fun neg => ?_, fun nn' => ?_⟩
  rotate_left
  · have c3 : cd = 3 := by
      rcases d1 with ⟨q, -⟩ | ⟨q, -⟩
      · exact q
      · exact absurd (hj.mpr (jwα.mpr q)) nn'
    exact hQ 0 _ ⟨hPβ, hOβ, hGβ, hMβ⟩ (((hBf.ti (by decide)).ti (by decide)).ti (by decide)) (by decide) h2β c3.symm (fun q => by omega) ⟨fun _ f hf' => (aβ f).trans ((yα f).trans (hw1 f hf')), fun q => by omega⟩
  have sd : SDp a' b' c' r' N X cd w τ := by
    rcases d1 with ⟨-, q⟩ | ⟨-, q⟩
    · exact absurd (jwα.mp (hj.mp neg)) q
    · exact q
  obtain ⟨px, hrr0, hjx, cl, le, ⟨hlab, hcc, h12⟩, out⟩ := sd
  have hrr : ∀ j : Int, 0 ≤ j → j < N → a' j = 9 → zA τ 0 13 (c' j) = r' (c' j) := fun j j0 j1 t => hrr0 j j0 j1 (by omega)
  have hjd : ∀ u : Int, 0 ≤ u → u < zI β 0 23 → Jd β u := by
    intro u u0 u1
    rw [iβ 23 (by decide)] at u1
    obtain ⟨z1, z2, z3, z4, z5⟩ := (hj.mp neg).2 u u0 u1
    unfold Jd
    rw [aβ 19, aβ 20, aβ 13]
    exact ⟨z1, z2, z5⟩
  have pxβ : PX a' b' c' N β := px.k ((iβ 31 (by decide)).trans (iα 31 (by decide))) ((aβ 24).trans (yα 24)) ((aβ 25).trans (yα 25)) ((aβ 26).trans (yα 26)) ((aβ 28).trans (yα 28))
  have hcw := cw neg
  have h6 := g6 neg
  refine x_settle g1 g3 hOβ ⟨c31, c34, h6.1⟩ pxβ (fun j j0 j1 t => by rw [aβ 13, yα 13]; exact hrr j j0 j1 t) hjx (fun γ hfγ h3γ hOγ hLγ hne lxγ clγ leγ => ?_)
  have pxγ : PX a' b' c' N γ := pxβ.k (hfγ.1 31 (by simp)) (hfγ.2 24 (by decide)) (hfγ.2 25 (by decide)) (hfγ.2 26 (by decide)) (hfγ.2 28 (by decide))
  have xeq := Cl.u clγ leγ cl le
  have osq : ∀ (s : Int) (k : Nat), k ≤ N → oS a' b' (gI a' b' c') (xR a' b' c' γ) s k = oS a' b' (gI a' b' c') X s k := fun s k hk => oS_cg k (fun j hj' t => xeq j (by omega) t)
  have dsq : ∀ j : Int, 0 ≤ j → j < N → dS a' b' c' (gI a' b' c') (xR a' b' c' γ) N j = dS a' b' c' (gI a' b' c') X N j := by
    intro j j0 j1
    have lb := lI_bd (a := a') (c := c') (n := c' j) N
    unfold dS
    rw [osq _ _ (by omega), osq _ _ (by omega), sI_cg (X := xR a' b' c' γ) (Y := X) (fun t => by have := xeq j.toNat (by omega); rw [show ((j.toNat : Nat) : Int) = j by omega] at this; exact this t)]
  have s36 : ∀ s : Int, 0 ≤ s → s < zI γ 0 34 → zA γ 0 36 s = oS a' b' (gI a' b' c') X s N := by
    intro s s0 s1
    have e1 := lxγ.1 s s0 s1
    have e2 := pxγ.oP s N (Nat.le_refl _)
    rw [show zI β 0 31 = PI a' b' c' N from pxβ.np] at e1
    rw [e1, e2, osq s N (Nat.le_refl _)]
  have iγ : ∀ f : Nat, zI γ 0 f = zI β 0 f := fun f => hfγ.1 f (by simp)
  have aγ : ∀ j : Nat, j ∉ [16, 29, 30, 36] → zA γ 0 j = zA β 0 j := hfγ.2
  have hγf : fr AF AA σ γ := hBf.tr (hfγ.up (by decide) (by decide))
  have hPγ : PA0 γ := hPβ.up (fun f _ => iγ f) (fun j hj' => aγ j (fun q => hj' ((show ∀ k ∈ [16, 29, 30, 36], k ∈ HA by decide) j q))) h3γ
  have hwγ : ∀ j : Nat, j ∈ WA → zA γ 0 j = zA β 0 j := fun j hj' => aγ j (fun q => absurd hj' ((show ∀ k ∈ [16, 29, 30, 36], k ∉ WA by decide) j q))
  have hGγ : GM γ := hGβ.up hwγ
  have hMγ : ∀ n : Int, 0 ≤ n → n ≤ 2 → MI γ n := fun n x y => (hMβ n x y).up hwγ
  have h2γ : zI γ 0 2 = 0 := by rw [iγ]; exact h2β
  have h24 : zI β 0 34 ≤ 24 := by
    have := pigeon (f := zA β 0 35) (g := zA β 0 14) (n := zI β 0 34) (k := zI β 0 17) c34.1 c17.1 (fun s s0 s1 => ⟨⟨(g4.1 s s0 (by omega)).1, (g4.2.1 s s0 s1).1⟩, (g4.2.1 s s0 s1).2.2.1⟩)
    omega
  have hWC : psum (zA γ 0 36) (zI γ 0 34).toNat ≤ 400 → WC γ := by
    intro hs
    unfold WC G1 G2 Sg
    rw [iγ 31, iγ 34, iγ 23] at *
    rw [aγ 12 (by decide), aγ 13 (by decide), aγ 14 (by decide), aγ 15 (by decide), aγ 19 (by decide), aγ 20 (by decide), aγ 21 (by decide), aγ 22 (by decide), aγ 24 (by decide), aγ 25 (by decide), aγ 28 (by decide), aγ 35 (by decide)]
    refine ⟨g1, g2, h3γ, hOγ, hLγ, ⟨c31, c34, h6.1⟩, h24, fun s s0 s1 => ⟨g4.1 s s0 (by omega), (g4.2.1 s s0 s1).2.2.2⟩, hs, hne, fun p p0 p1 hk => ?_, fun u u0 u1 hz => ?_, c23, ccn⟩
    · obtain ⟨u, u0, u1, ue, uk⟩ := g5.2 p p0 p1 hk
      have hu := hjd u u0 u1
      have hn := (g2 u u0 (by omega)).2.1
      have hn17 := g5.1 u u0 u1
      rw [← ue]
      have hg := g1 _ hn.1 hn.2
      have hg4 := g4.2.2 _ hn.1 hn17
      refine ⟨hg.2.1.1, fun n3 => ?_⟩
      have hs0 : zA β 0 13 (zA β 0 20 u) = 1 ∨ zA β 0 13 (zA β 0 20 u) = 2 := by
        rcases uk with k | k
        · have := hu.2.1 k; omega
        · have := hu.2.2 k; omega
      rcases hs0 with k | k
      · exact (hg4.1 k).2
      · rcases hg4.2 k with e | e
        · omega
        · exact e
    · have hu := (hjd u u0 u1).1 hz
      have hn := (g2 u u0 (by omega)).2.1
      have hn17 := g5.1 u u0 u1
      have hg4 := (g4.2.2 _ hn.1 hn17).2 hu
      have hg6 := h6.2 _ hn.1 hn17 hu
      omega
  have i31 := iγ 31
  have i34 := iγ 34
  have hszn : ∀ j : Int, 0 ≤ j → j < ((zI γ 0 34).toNat : Int) → 0 ≤ zA γ 0 36 j := fun j x y => (hLγ.1 j x (by omega)).1
  have hps : ∀ s : Int, 0 ≤ s → psum (zA γ 0 36) (s + 1).toNat = psum (zA γ 0 36) s.toNat + zA γ 0 36 s := by
    intro s s0
    rw [show (s + 1).toNat = s.toNat + 1 by omega]
    show psum (zA γ 0 36) s.toNat + zA γ 0 36 ((s.toNat : Nat) : Int) = _
    rw [show ((s.toNat : Nat) : Int) = s by omega]
  have tell : ∀ (x y z : Int), z = cd → z ≠ 0 → Q 0 (zsI (zsI (zsI γ 0 3 x) 0 4 y) 0 0 z) := fun x y z hz hz0 => hQ 0 _ ⟨hPγ, hOγ, hGγ, hMγ⟩ (((hγf.ti (by decide)).ti (by decide)).ti (by decide)) (by decide) h2γ hz (fun q => by omega) ⟨fun _ f hf' => (hwγ f hf').trans ((aβ f).trans ((yα f).trans (hw1 f hf'))), fun q => by omega⟩
  have e34 : zI γ 0 34 = zI τ 0 34 := (iγ 34).trans ((iβ 34 (by decide)).trans (iα 34 (by decide)))
  have sume : psum (zA γ 0 36) (zI γ 0 34).toNat = psum (fun s => oS a' b' (gI a' b' c') X s N) (zI τ 0 34).toNat := by
    rw [e34]
    exact psum_ext _ (fun s s0 s1 => s36 s s0 (by omega))
  have f114 : ∀ v3 : Int, (0 ≤ v3 ∧ v3 ≤ 400) → psum (zA γ 0 36) (zI γ 0 34).toNat ≤ 400 → v3 = psum (zA γ 0 36) (zI γ 0 34).toNat → wpX11_assemble_114 a v3 0 γ Q := by
    intro v3 hv3 hs ev3
    have out2 : (cd = 5 ∧ ∃ j : Int, 0 ≤ j ∧ j < N ∧ a' j = 10 ∧ ¬ Sh (dS a' b' c' (gI a' b' c') X N j)) ∨ (cd = 0 ∧ (∀ j : Int, 0 ≤ j → j < N → a' j = 10 → Sh (dS a' b' c' (gI a' b' c') X N j)) ∧ w = psum (fun s => oS a' b' (gI a' b' c') X s N) (zI τ 0 34).toNat) := by
      rcases out with ⟨-, q⟩ | ⟨-, q⟩
      · rw [← sume] at q; omega
      · exact q
    have hW := hWC hs
    unfold wpX11_assemble_114
    refine lfp1_ind (fun v _ => (zI γ 0 31 - v).toNat) (fun v τ => τ = γ ∧ (0 ≤ v ∧ v ≤ zI γ 0 31) ∧ ∀ p : Int, 0 ≤ p → p < v → zA γ 0 24 p = 5 → Sh (zA γ 0 16 (zA γ 0 25 p) - zA γ 0 29 p - szp γ p)) ?_ ⟨rfl, by omega, fun p p0 p1 => by omega⟩
    intro P v τ' ⟨he, hv, hsh⟩ ih
    rw [he]
    show wpbX11_assemble_114 P a v3 v γ Q
    unfold wpbX11_assemble_114 wpX11_assemble_160
    have next : v < zI γ 0 31 → (zA γ 0 24 v = 5 → Sh (zA γ 0 16 (zA γ 0 25 v) - zA γ 0 29 v - szp γ v)) → P (v + 1) γ := fun q hh => ih (v + 1) γ ⟨rfl, by omega, fun p p0 p1 t => by
      by_cases e : p = v
      · rw [e] at t ⊢; exact hh t
      · exact hsh p p0 (by omega) t⟩ (by show (zI γ 0 31 - (v + 1)).toNat < (zI γ 0 31 - v).toNat; omega)
    -- a branch's distance, by pieces and by items
    have dd : ∀ j : Int, 0 ≤ j → j < N → a' j = 10 → zA γ 0 16 (zA γ 0 25 (PI a' b' c' j)) - zA γ 0 29 (PI a' b' c' j) - szp γ (PI a' b' c' j) = dS a' b' c' (gI a' b' c') X N j := by
      intro j j0 j1 t
      obtain ⟨f1, f2, f3, f4⟩ := pxγ.fw j j0 j1 (Or.inr (Or.inr t))
      have hh := hjx.2.1 j j0 j1 t
      have d := Lx.d (r := r') pxγ (by rw [iγ 31]; exact lxγ) j0 j1 (Or.inr t) ⟨hh.1, hh.2.1⟩
      rw [f3, d, dsq j j0 j1]
    refine ⟨by omega, by omega, fun e => ?_, fun ne => ?_⟩
    · refine y_write hW hGγ hA (fun υ hfu hOu hGu hMu h43 e44 rg mq py => ?_)
      have hPu : PA0 υ := by
        refine hPγ.up (fun f _ => hfu.1 f (by simp)) (fun j hj' => hfu.2 j (fun q => hj' ((show ∀ k ∈ WA, k ∈ HA by decide) j q))) ?_
        unfold G3; rw [hfu.2 24 (by decide), hfu.2 25 (by decide), hfu.2 26 (by decide), hfu.2 27 (by decide), hfu.2 28 (by decide), hfu.2 30 (by decide)]; exact h3γ
      have hOu' : OFs υ := hOγ.up (hfu.2 16 (by decide))
      have all : ∀ j : Int, 0 ≤ j → j < N → a' j = 10 → Sh (dS a' b' c' (gI a' b' c') X N j) := by
        intro j j0 j1 t
        obtain ⟨f1, f2, f3, f4⟩ := pxγ.fw j j0 j1 (Or.inr (Or.inr t))
        rw [← dd j j0 j1 t]
        exact hsh _ f1.1 (by omega) (by rw [f2, t]; rfl)
      have o0 : cd = 0 ∧ w = psum (fun s => oS a' b' (gI a' b' c') X s N) (zI τ 0 34).toNat := by
        rcases out2 with ⟨-, j, j0, j1, t, ns⟩ | ⟨q, -, q'⟩
        · exact absurd (all j j0 j1 t) ns
        · exact ⟨q, q'⟩
      refine hQ _ _ ⟨hPu, hOu', hGu, fun n n0 n1 => ?_⟩ (((hγf.tr (hfu.up (by decide) (by decide))).ti (by decide)).ti (by decide)) hv3 ?_ ?_ (fun _ => by rw [ev3, sume, o0.2]) ⟨fun q => absurd o0.1 q, fun _ => ⟨?_, ?_, τ, po1, ?_⟩⟩
      · show MI υ n
        by_cases e : n = a
        · rw [e]; exact hMu
        · exact (hMγ n n0 n1).ou hOu.1 hA ⟨n0, n1⟩ e
      · show zI υ 0 2 = 0
        rw [hfu.1 2 (by simp)]; exact h2γ
      · show zI υ 0 0 = cd
        rw [hfu.1 0 (by simp), iγ 0, iβ 0 (by decide), iα 0 (by decide), hf.1 0 (by decide), o0.1]
        exact zI_s
      · show zA υ 0 43 = _
        rw [h43, hwγ 43 (by decide), aβ 43, yα 43, hw1 43 (by decide)]
      · have w0 : OY a σ υ := OY.pre (fun f hf' => (hwγ f hf').trans ((aβ f).trans ((yα f).trans (hw1 f hf')))) hOu
        exact w0
      · have ar : ∀ f : Nat, f ∉ [16, 29, 30, 36] → zA γ 0 f = zA τ 0 f := fun f hf' => (aγ f hf').trans ((aβ f).trans (yα f))
        have i23 : zI γ 0 23 = zI τ 0 23 := (iγ 23).trans ((iβ 23 (by decide)).trans (iα 23 (by decide)))
        have h36' : ∀ s : Int, 0 ≤ s → s < zI γ 0 34 → zA γ 0 36 s = oS a' b' (gI a' b' c') X s N := s36
        have lxx : Lx γ γ (zI γ 0 31).toNat := by rw [iγ 31]; exact lxγ
        have xq : ∀ j : Nat, j < N → a' j = 9 → (xR a' b' c' γ j = 0 ↔ X j = 0) := fun j hj' t => xeq j hj' t
        have qq := qm (r := r') (X := X) pxγ lxx xq (fun j j0 j1 t => by rw [ar 13 (by decide)]; exact hrr0 j j0 j1 t) h36' (hW.2.2.2.2.2.1).2.2 hlab hjx hcc (fun j j0 j1 t x0 => (cl j j0 j1 t x0).1) h12 N (Nat.le_refl _)
        rw [← pxγ.np] at qq
        rw [qq] at mq
        have st : ∀ s : Int, 0 ≤ s → s ≤ zI γ 0 34 → psum (zA γ 0 36) s.toNat = stS a' b' (gI a' b' c') X N s := fun s s0 s1 => psum_ext _ (fun j j0 j1 => h36' j j0 (by omega))
        have lo : ∀ n : Int, 0 ≤ lI a' c' n N → zA γ 0 16 n = loS a' b' c' (gI a' b' c') X N n := fun n h => pxγ.lab lxx xq h
        unfold PY at py
        unfold MQr at mq
        rw [ar 19 (by decide), ar 20 (by decide), ar 12 (by decide), ar 14 (by decide), i23] at py
        rw [ar 12 (by decide), ar 13 (by decide), ar 14 (by decide)] at mq
        refine ⟨by show zA υ 0 44 a = _; rw [e44, e34], fun s s0 s1 => ?_, mq, fun k k0 k1 => ?_, fun u u0 u1 uz => ?_⟩
        · have s1' : s < zI γ 0 34 := by omega
          obtain ⟨x1, x2, x3, x4⟩ := rg s s0 s1'
          show zA υ 0 47 (24 * a + s) = _ ∧ zA υ 0 48 (24 * a + s) = _ ∧ zA υ 0 46 (24 * a + s) = _ ∧ zA υ 0 45 (24 * a + s) = _
          rw [x1, x2, x3, x4, ar 15 (by decide), ar 12 (by decide), ar 35 (by decide)]
          exact ⟨st s s0 (by omega), h36' s s0 s1', rfl, rfl⟩
        · obtain ⟨u, y1, y2, y3, y4, y5⟩ := py.1 k k0 k1
          exact ⟨u, y1, y2, y3, y4, fun h => y5.trans (lo _ h)⟩
        · obtain ⟨k, y1, y3, y4, y5⟩ := py.2 u u0 u1 uz
          exact ⟨k, y1, y3, y4, fun h => y5.trans (lo _ h)⟩
    · have hq := h3γ v hv.1 (by omega)
      refine ⟨by omega, by omega, fun n5 => next (by omega) (fun q => absurd q n5), fun e5 => ?_⟩
      have hn := hq.2.1 (by omega) (by omega)
      have hof := hOγ _ hn.1 hn.2
      have hat := hLγ.2.1 v hv.1 (by omega)
      have hsz := szp_bd h3γ hv.1 (by omega)
      refine s_distance h3γ (by omega) hn ?_
      refine s_isShort (by omega) (fun s1 s2 => ⟨by decide, fun _ => next (by omega) (fun _ => ⟨s1, s2⟩), fun q => absurd q (by decide)⟩) (fun ns => ⟨by decide, fun q => absurd rfl q, fun _ => tell _ _ _ ?_ (by decide)⟩)
      obtain ⟨j, j0, j1, jt, jk⟩ := pxγ.bw v hv.1 (by omega) (Or.inr e5)
      have t10 : a' j = 10 := by omega
      have d := dd j j0 j1 t10
      rw [← jk] at d
      rcases out2 with ⟨q, -⟩ | ⟨-, q, -⟩
      · exact q.symm
      · have := q j j0 j1 t10
        rw [← d] at this
        unfold Sh at this
        omega
  unfold wpX11_assemble_71
  refine lfp2_ind (fun _ v _ => (zI γ 0 34 - v).toNat) (fun x v τ => τ = γ ∧ (0 ≤ v ∧ v ≤ zI γ 0 34) ∧ x = psum (zA γ 0 36) v.toNat ∧ (0 ≤ x ∧ x ≤ 62000 * v)) ?_ ⟨rfl, by omega, rfl, by omega⟩
  intro P x v τ' ⟨he, hv, hx, hxb⟩ ih
  rw [he]
  show wpbX11_assemble_71 P a x v γ Q
  unfold wpbX11_assemble_71
  refine ⟨by omega, by omega, fun e => ⟨by omega, fun le4 => ?_, fun gt4 => tell _ _ _ ?_ (by decide)⟩, fun ne => ⟨by omega, ih _ _ _ ⟨rfl, by omega, ?_, ?_⟩ (by show (zI γ 0 34 - (v + 1)).toNat < (zI γ 0 34 - v).toNat; omega)⟩⟩
  · have hev : v = zI γ 0 34 := by omega
    refine f114 x ⟨hxb.1, le4⟩ ?_ ?_
    · rw [← hev, ← hx]; exact le4
    · rw [← hev]; exact hx
  · have hev : v = zI γ 0 34 := by omega
    rcases out with ⟨q, -⟩ | ⟨q, -⟩
    · exact q.symm
    · rw [← sume, ← hev, ← hx] at q; omega
  · rw [hps v hv.1, hx]
  · have := hLγ.1 v hv.1 (by omega)
    omega
