/-! C: the class's face -/
def CI (σ : ZS) (N : Int) : Prop := TX σ ∧ NR σ ∧ LRg σ ∧ M3 σ ∧ LKc σ ∧ IMc σ ∧ CM σ N
theorem LRg.k {σ τ : ZS} (h : LRg σ) (e : ob τ 15 = ob σ 15) : LRg τ := by
  have e2 := ob_A e
  unfold LRg; simp only [e2]; exact h
theorem c_isModule {a : Int} {σ : ZS} {Q : Int → ZS → Prop} (ha : -2147483648 ≤ a ∧ a ≤ 2147483647) (h1 : 0 ≤ a → a ≤ 2 → Q 1 σ) (h0 : ¬ (0 ≤ a ∧ a ≤ 2) → Q 0 σ) : wpX10_isModule a σ Q := by
  unfold wpX10_isModule wpX10_isModule_13 wpX10_isModule_14
  exact ⟨ha, fun _ => ⟨by decide, h0 (by omega)⟩, fun _ => ⟨fun _ => ⟨by decide, h0 (by omega)⟩, fun _ => ⟨by decide, h1 (by omega) (by omega)⟩⟩⟩
/-- a throw's kind among those that a wrapper knows -/
theorem c_assemble {σ : ZS} {N a : Int} {Q : Int → ZS → Prop} {X : String → ZS → Prop} (h : CI σ N) (ha : -2147483648 ≤ a ∧ a ≤ 2147483647) (hQ : ∀ (x : Int) (τ : ZS), CI τ N → zI τ 10 1 = (if 0 ≤ a ∧ a ≤ 2 then 0 else zI σ 10 1) → (0 ≤ x ∧ x ≤ 400) → Q x τ) (hX : ∀ (s : String) (τ : ZS), s = xIAE ∨ s = xUOE ∨ s = xNSE ∨ s = xIOB ∨ s = xARI → CI τ N → zI τ 10 1 = (if 0 ≤ a ∧ a ≤ 2 then 0 else zI σ 10 1) → X s τ) : wpX10_assemble a σ Q X := by
  obtain ⟨hT, hN, hL, hM, hK, hI, hC⟩ := h
  unfold wpX10_assemble
  refine c_isModule ha (fun a0 a2 => ⟨by decide, fun _ => ?_, fun q => absurd q (by decide)⟩) (fun no => ⟨by decide, fun q => absurd rfl q, fun _ => hX _ σ (Or.inl rfl) ⟨hT, hN, hL, hM, hK, hI, hC⟩ (by rw [if_neg no])⟩)
  rw [if_pos ⟨a0, a2⟩] at hQ hX
  refine c_read hT hN rfl (fun τ rd k he => ?_)
  obtain ⟨rS, rR, rF, rT⟩ := rd
  have o1 : ∀ g : Int, g ≠ 10 → ob (zsI τ 10 1 0) g = ob τ g := fun g hg => ob_i hg
  -- what is kept all along
  have fin : ∀ (υ : ZS) (w1 w2 : Int), kp [5, 6, 11, 12, 13, 14, 15] (zsI τ 10 1 0) υ → NR υ → LRg υ → M3 υ → (CI (zsI (zsI υ 10 2 w1) 10 3 w2) N ∧ zI (zsI (zsI υ 10 2 w1) 10 3 w2) 10 1 = 0) := by
    intro υ w1 w2 uk uN uL uM
    have e10 := uk 10 (by decide)
    have t1 : zI υ 10 1 = 0 := ob_I e10 1
    have t0 : zA υ 10 0 = zA τ 10 0 := ob_A e10 0
    have kk : ∀ g : Int, g ≠ 10 → ob (zsI (zsI υ 10 2 w1) 10 3 w2) g = ob υ g := fun g hg => (ob_i hg).trans (ob_i hg)
    have c1 : ∀ g : Int, g ∉ [(5 : Int), 6, 11, 12, 13, 14, 15] → g ≠ 10 → g ∉ [(11 : Int), 12] → ob (zsI (zsI υ 10 2 w1) 10 3 w2) g = ob σ g := fun g h1 h2 h3 => ((kk g h2).trans (uk g h1)).trans ((o1 g h2).trans (k g h3))
    refine ⟨⟨⟨?_, ?_, ?_⟩, uN.k (kk 11 (by decide)), uL.k (kk 15 (by decide)), ?_, hK.k (c1 16 (by decide) (by decide) (by decide)), hI.k (c1 17 (by decide) (by decide) (by decide)), hC.k (c1 18 (by decide) (by decide) (by decide))⟩, t1⟩
    · show 0 ≤ zI υ 10 1 ∧ zI υ 10 1 ≤ 480
      rw [t1]; decide
    · show ∀ i : Int, 0 ≤ i → i < 480 → 0 ≤ zA υ 10 0 i ∧ zA υ 10 0 i ≤ 126
      rw [t0, ob_A (k 10 (by decide)) 0]; exact hT.2.1
    · intro i i0 i1
      have i1' : i < zI υ 10 1 := i1
      omega
    · intro m m0 m2
      exact (uM m m0 m2).k (kk m (by omega))
  have lr0 : LRg (zsI τ 10 1 0) := hL.k ((o1 15 (by decide)).trans (k 15 (by decide)))
  have m30 : M3 (zsI τ 10 1 0) := hM.k (k.up (G' := [10, 11, 12]) (by decide) |>.ti (by decide)) (by decide) (by decide) (by decide)
  refine c_parse ⟨rS.k (o1 11 (by decide)), rR.k (o1 11 (by decide)), rF.k (o1 11 (by decide)), rT.k (o1 11 (by decide)) (o1 12 (by decide))⟩ he (fun x υ up uk hx => ?_)
  have u11 := uk 11 (by decide)
  have uN : NR υ := (rR.k (o1 11 (by decide))).k u11
  have uL : LRg υ := lr0.k (uk 15 (by decide))
  have uM : M3 υ := m30.k uk (by decide) (by decide) (by decide)
  unfold wpX10_tell
  refine ⟨by omega, fun _ => ?_, fun _ => hX _ _ (Or.inr (Or.inl rfl)) (fin υ _ _ (uk.up (by decide)) uN uL uM).1 (fin υ _ _ (uk.up (by decide)) uN uL uM).2⟩
  refine c_firstWrong uN ((rS.k (o1 11 (by decide))).k u11) ((rF.k (o1 11 (by decide))).k u11) ⟨up.2.2.2.2.1.w, up.2.2.2.2.2.1.1⟩ uL (fun y ω wy wd we wu wk => ?_)
  have k2 : kp [5, 6, 11, 12, 13, 14, 15] (zsI τ 10 1 0) ω := (uk.up (by decide)).tr (wk.up (by decide))
  have wM : M3 ω := uM.k wk (by decide) (by decide) (by decide)
  have w5 := wy.2.2.2.2.1
  refine ⟨by omega, fun neg => ?_, fun _ => hX _ _ (Or.inr (Or.inr (Or.inl rfl))) (fin ω _ _ k2 wy.1 wy.2.2.2.2.2.2.1 wM).1 (fin ω _ _ k2 wy.1 wy.2.2.2.2.2.2.1 wM).2⟩
  refine c_sizeJumps ⟨wy, wd, wu neg, by omega⟩ (fun z ψ pz pk pe ph => ?_)
  have k3 : kp [5, 6, 11, 12, 13, 14, 15] (zsI τ 10 1 0) ψ := k2.tr (pk.up (by decide))
  have pM : M3 ψ := wM.k pk (by decide) (by decide) (by decide)
  refine ⟨by omega, fun le => ?_, fun _ => hX _ _ (Or.inr (Or.inr (Or.inr (Or.inl rfl)))) (fin ψ _ _ k3 pz.1.1 pz.1.2.2.2.2.2.2.1 pM).1 (fin ψ _ _ k3 pz.1.1 pz.1.2.2.2.2.2.2.1 pM).2⟩
  refine c_firstTooFar pz (fun f hf => ⟨by omega, fun _ => ⟨by omega, c_write ⟨a0, a2⟩ pz (by rw [← pe]; exact le) (fun χ xm xk => ?_)⟩, fun _ => hX _ _ (Or.inr (Or.inr (Or.inr (Or.inr rfl)))) (fin ψ _ _ k3 pz.1.1 pz.1.2.2.2.2.2.2.1 pM).1 (fin ψ _ _ k3 pz.1.1 pz.1.2.2.2.2.2.2.1 pM).2⟩)
  -- written
  have na : ∀ g : Int, 3 ≤ g → g ∉ [a] := fun g hg => n_1 (by omega)
  have kk : ∀ g : Int, g ≠ 10 → ob (zsI (zsI χ 10 2 (-1)) 10 3 (-1)) g = ob χ g := fun g hg => (ob_i hg).trans (ob_i hg)
  have f1 := fin ψ (-1) (-1) k3 pz.1.1 pz.1.2.2.2.2.2.2.1 pM
  have same : ∀ g : Int, 3 ≤ g → ob (zsI (zsI χ 10 2 (-1)) 10 3 (-1)) g = ob (zsI (zsI ψ 10 2 (-1)) 10 3 (-1)) g := by
    intro g hg
    by_cases e : g = 10
    · have e10 := xk 10 (na 10 (by decide))
      rw [e]
      unfold ob at e10 ⊢
      have e1 := congrArg Prod.fst e10
      have e2 := congrArg Prod.snd e10
      refine Prod.ext (funext fun f => ?_) e2
      have q := congrFun e1 f
      show (if (10 : Int) = 10 then (if f = 3 then (-1 : Int) else (if (10 : Int) = 10 then (if f = 2 then (-1 : Int) else χ.1 10 f) else χ.1 10 f)) else (if (10 : Int) = 10 then (if f = 2 then (-1 : Int) else χ.1 10 f) else χ.1 10 f)) = (if (10 : Int) = 10 then (if f = 3 then (-1 : Int) else (if (10 : Int) = 10 then (if f = 2 then (-1 : Int) else ψ.1 10 f) else ψ.1 10 f)) else (if (10 : Int) = 10 then (if f = 2 then (-1 : Int) else ψ.1 10 f) else ψ.1 10 f))
      rw [show χ.1 10 f = ψ.1 10 f from q]
    · rw [(ob_i e).trans (ob_i e), (ob_i e).trans (ob_i e)]; exact xk g (na g hg)
  obtain ⟨⟨c1, c2, c3, c4, c5, c6, c7⟩, c8⟩ := f1
  refine hQ z _ ⟨c1.k (same 10 (by decide)), c2.k (same 11 (by decide)), c3.k (same 15 (by decide)), fun m m0 m2 => ?_, c5.k (same 16 (by decide)), c6.k (same 17 (by decide)), c7.k (same 18 (by decide))⟩ ((ob_I (same 10 (by decide)) 1).trans c8) ⟨ph.1, le⟩
  by_cases e : m = a
  · rw [e]; exact xm.k (kk a (by omega))
  · exact (pM m m0 m2).k ((kk m (by omega)).trans (xk m (n_1 e)))
