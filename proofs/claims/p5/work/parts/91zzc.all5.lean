/-! X: assemble answers alike, and the modules are alike -/
def MLx (σ ρ : ZS) (m : Int) : Prop := (zI σ m 1 = zA ρ 0 44 m ∧ ∀ s : Int, 0 ≤ s → s < zI σ m 1 → zA ρ 0 48 (24 * m + s) = zA σ m 4 s ∧ zA ρ 0 47 (24 * m + s) = zA σ m 5 s ∧ zA ρ 0 46 (24 * m + s) = zA σ m 3 s ∧ RW (zA ρ 0 45 (24 * m + s)) (zA σ m 2 s)) ∧ (∀ j : Int, 0 ≤ j → j < 400 → zA ρ 0 49 (400 * m + j) = zA σ m 6 j) ∧ (zI σ m 7 = zA ρ 0 50 m ∧ ∀ k : Int, 0 ≤ k → k < zI σ m 7 → zA ρ 0 51 (200 * m + k) = zA σ m 8 k ∧ zA ρ 0 52 (200 * m + k) = zA σ m 9 k ∧ zA ρ 0 53 (200 * m + k) = zA σ m 10 k ∧ zA ρ 0 54 (200 * m + k) = zA σ m 11 k ∧ RW (zA ρ 0 55 (200 * m + k)) (zA σ m 12 k)) ∧ (∀ k : Int, 0 ≤ k → k < zA ρ 0 56 m → ∃ q : Int, (0 ≤ q ∧ q < zI σ m 13) ∧ RW (zA ρ 0 57 (80 * m + k)) (zA σ m 14 q) ∧ zA ρ 0 58 (80 * m + k) = zA σ m 15 q ∧ zA ρ 0 59 (80 * m + k) = zA σ m 16 q) ∧ (∀ q : Int, 0 ≤ q → q < zI σ m 13 → ∃ k : Int, (0 ≤ k ∧ k < zA ρ 0 56 m) ∧ RW (zA ρ 0 57 (80 * m + k)) (zA σ m 14 q) ∧ zA ρ 0 58 (80 * m + k) = zA σ m 15 q ∧ zA ρ 0 59 (80 * m + k) = zA σ m 16 q) ∧ (∀ q q' : Int, 0 ≤ q → q < zI σ m 13 → 0 ≤ q' → q' < zI σ m 13 → zA σ m 14 q = zA σ m 14 q' → q = q') ∧ (∀ k : Int, 0 ≤ k → k < zI σ m 7 → zA σ m 8 k = 2 → zA σ m 11 k < 0)
/-- how the reference's assemble ends -/
def AO5 (ρ : ZS) (a cd w N' : Int) (PM : ZS → Prop) : Prop := ∀ Qr : Int → ZS → Prop, (∀ (r : Int) (ρ' : ZS), RI ρ' N' → zI ρ' 0 2 = (if 0 ≤ a ∧ a ≤ 2 then 0 else zI ρ 0 2) → zA ρ' 0 1 = zA ρ 0 1 → zI ρ' 0 0 = cd → (cd = 0 → r = w) → ((cd ≠ 0 → ∀ f : Nat, f ∈ WA → zA ρ' 0 f = zA ρ 0 f) ∧ (cd = 0 → zA ρ' 0 43 = zu (zA ρ 0 43) a 1 ∧ OY a ρ ρ' ∧ PM ρ')) → Qr r ρ') → wpX11_assemble a ρ Qr
theorem AO5_of {ρ : ZS} {a cd w N' : Int} {PM : ZS → Prop} {a' b' c' r' X : Int → Int} {N : Nat} (hr : RI ρ N') (hA : 0 ≤ a ∧ a ≤ 2) (PO : Int → ZS → Prop) (hparse : ∀ Qp : Int → ZS → Prop, (∀ (r : Int) (τ : ZS), GG τ → fr PF PA (zsI ρ 0 0 0) τ → (r = 0 ∨ r = 1) → PO r τ → Qp r τ) → wpX11_parse (zsI ρ 0 0 0) Qp) (hD0 : ∀ τ : ZS, PO 0 τ → cd = 2) (hD1 : ∀ τ : ZS, PO 1 τ → GG τ → (cd = 3 ∧ ¬ JW τ) ∨ (JW τ ∧ SDp a' b' c' r' N X cd w τ)) (hPM : cd = 0 → ∀ υ τ : ZS, PO 1 υ → SUC a' b' c' r' N X υ a τ → PM τ) : AO5 ρ a cd w N' PM := by
  intro Qr hq
  obtain ⟨h1, h2, h3, h4, h5⟩ := hr
  refine x_assemble5 ⟨h1, h2, h3.1, h3.2⟩ hA PO hparse hD0 hD1 (fun r τ g f hr' e e0 ew et => hq r τ ⟨g.1, g.2.1, ⟨g.2.2.1, g.2.2.2⟩, h4.same (f.in (by decide)) (f.an (by decide)), h5.same (f.in (by decide)) (f.an (by decide))⟩ (by rw [if_pos hA]; exact e) (f.2 1 (by decide)) e0 ew ⟨et.1, fun z => ?_⟩)
  obtain ⟨q1, q2, υ, q3, q4⟩ := et.2 z
  exact ⟨q1, q2, hPM z υ τ q3 q4⟩
theorem AO5_no {ρ : ZS} {a N' : Int} {PM : ZS → Prop} (hr : RI ρ N') (ha : -2147483648 ≤ a ∧ a ≤ 2147483647) (hA : ¬ (0 ≤ a ∧ a ≤ 2)) : AO5 ρ a 1 0 N' PM := by
  intro Qr hq
  have f : wpX11_assemble_14 (zsI ρ 0 0 0) Qr := by
    unfold wpX11_assemble_14 wpX11_raise
    refine hq 0 _ (hr.read ((fr.rf.ti (by decide)).ti (by decide))) (by rw [if_neg hA]; rfl) rfl ?_ (fun q => absurd q (by decide)) ⟨fun _ _ _ => rfl, fun q => absurd q (by decide)⟩
    exact zI_s
  unfold wpX11_assemble
  exact ⟨ha, fun _ => f, fun nn => ⟨fun le => absurd ⟨by omega, le⟩ hA, fun _ => f⟩⟩
theorem t_assemble5 {σ ρ : ZS} {N N' a : Int} {Q : Int → ZS → Prop} {X : String → ZS → Prop} (h : CI σ N) (hr : RI ρ N') (hlen : zI σ 10 1 = zI ρ 0 2) (htx : ∀ j : Int, 0 ≤ j → j < zI ρ 0 2 → zA ρ 0 1 j = zA σ 10 0 j) (ha : -2147483648 ≤ a ∧ a ≤ 2147483647) (hQ : ∀ (x : Int) (τ : ZS), CI τ N → zI τ 10 1 = (if 0 ≤ a ∧ a ≤ 2 then 0 else zI σ 10 1) → (¬ (0 ≤ a ∧ a ≤ 2) → zA τ 10 0 = zA σ 10 0) → AO5 ρ a 0 x N' (fun ρ' => MLx τ ρ' a) → (0 ≤ a ∧ a ≤ 2) → (∀ m : Int, 0 ≤ m → m ≤ 2 → m ≠ a → ob τ m = ob σ m) → zI τ a 0 = 1 → Q x τ) (hX : ∀ (s : String) (τ : ZS), ((s = xIAE ∧ AO5 ρ a 1 0 N' (fun _ => True)) ∨ (s = xUOE ∧ AO5 ρ a 2 0 N' (fun _ => True)) ∨ (s = xNSE ∧ AO5 ρ a 3 0 N' (fun _ => True)) ∨ (s = xIOB ∧ AO5 ρ a 4 0 N' (fun _ => True)) ∨ (s = xARI ∧ AO5 ρ a 5 0 N' (fun _ => True))) → CI τ N → zI τ 10 1 = (if 0 ≤ a ∧ a ≤ 2 then 0 else zI σ 10 1) → (¬ (0 ≤ a ∧ a ≤ 2) → zA τ 10 0 = zA σ 10 0) → (∀ m : Int, 0 ≤ m → m ≤ 2 → ob τ m = ob σ m) → X s τ) : wpX10_assemble a σ Q X := by
  obtain ⟨hT, hN, hL, hM, hK, hI, hC⟩ := h
  unfold wpX10_assemble
  refine c_isModule ha (fun a0 a2 => ⟨by decide, fun _ => ?_, fun q => absurd q (by decide)⟩) (fun no => ⟨by decide, fun q => absurd rfl q, fun _ => hX _ σ (Or.inl ⟨rfl, AO5_no hr ha no⟩) ⟨hT, hN, hL, hM, hK, hI, hC⟩ (by rw [if_neg no]) (fun _ => rfl) (fun _ _ _ => rfl)⟩)
  rw [if_pos ⟨a0, a2⟩] at hQ hX
  have nA : ¬ (0 ≤ a ∧ a ≤ 2) → ∀ p : Prop, p := fun q => absurd ⟨a0, a2⟩ q
  refine x_read hT hN rfl (fun τ E M rdx k => ?_)
  have he : 1 ≤ zI τ 12 3 ∧ zA τ 12 0 (zI τ 12 3 - 1) = 0 := ⟨rdx.2.2.1, rdx.2.2.2.1⟩
  have rd := rdx.1
  obtain ⟨rS, rR, rF, rT⟩ := rd
  have o1 : ∀ g : Int, g ≠ 10 → ob (zsI τ 10 1 0) g = ob τ g := fun g hg => ob_i hg
  -- what is kept all along
  have fin : ∀ (υ : ZS) (w1 w2 : Int), kp [5, 6, 11, 12, 13, 14, 15] (zsI τ 10 1 0) υ → NR υ → LRg υ → M3 υ → (CI (zsI (zsI υ 10 2 w1) 10 3 w2) N ∧ zI (zsI (zsI υ 10 2 w1) 10 3 w2) 10 1 = 0 ∧ ∀ m : Int, 0 ≤ m → m ≤ 2 → ob (zsI (zsI υ 10 2 w1) 10 3 w2) m = ob σ m) := by
    intro υ w1 w2 uk uN uL uM
    have e10 := uk 10 (by decide)
    have t1 : zI υ 10 1 = 0 := ob_I e10 1
    have t0 : zA υ 10 0 = zA τ 10 0 := ob_A e10 0
    have kk : ∀ g : Int, g ≠ 10 → ob (zsI (zsI υ 10 2 w1) 10 3 w2) g = ob υ g := fun g hg => (ob_i hg).trans (ob_i hg)
    have c1 : ∀ g : Int, g ∉ [(5 : Int), 6, 11, 12, 13, 14, 15] → g ≠ 10 → g ∉ [(11 : Int), 12] → ob (zsI (zsI υ 10 2 w1) 10 3 w2) g = ob σ g := fun g h1 h2 h3 => ((kk g h2).trans (uk g h1)).trans ((o1 g h2).trans (k g h3))
    refine ⟨⟨⟨?_, ?_, ?_⟩, uN.k (kk 11 (by decide)), uL.k (kk 15 (by decide)), ?_, hK.k (c1 16 (by decide) (by decide) (by decide)), hI.k (c1 17 (by decide) (by decide) (by decide)), hC.k (c1 18 (by decide) (by decide) (by decide))⟩, t1, fun m m0 m2 => ?_⟩
    · show 0 ≤ zI υ 10 1 ∧ zI υ 10 1 ≤ 480
      rw [t1]; decide
    · show ∀ i : Int, 0 ≤ i → i < 480 → 0 ≤ zA υ 10 0 i ∧ zA υ 10 0 i ≤ 126
      rw [t0, ob_A (k 10 (by decide)) 0]; exact hT.2.1
    · intro i i0 i1
      have i1' : i < zI υ 10 1 := i1
      omega
    · intro m m0 m2
      exact (uM m m0 m2).k (kk m (by omega))
    · exact c1 m (by simp only [List.mem_cons, List.not_mem_nil, or_false]; omega) (by omega) (by simp only [List.mem_cons, List.not_mem_nil, or_false]; omega)
  have lr0 : LRg (zsI τ 10 1 0) := hL.k ((o1 15 (by decide)).trans (k 15 (by decide)))
  have m30 : M3 (zsI τ 10 1 0) := hM.k (k.up (G' := [10, 11, 12]) (by decide) |>.ti (by decide)) (by decide) (by decide) (by decide)
  have hCT : CT (zA σ 10 0) (zI σ 10 1) E M (zsI τ 10 1 0) := CT.k (σ := τ) ⟨rdx, fun j j0 j1 => (hT.2.1 j j0 (by have := hT.1; omega)).2⟩ (o1 11 (by decide)) (o1 12 (by decide))
  refine t_parse hCT (fun x υ up uk hx pe => ?_)
  have pp := p_parse hCT pe hr.1 hlen.symm (fun j j0 j1 => htx j j0 (by omega))
  have u11 := uk 11 (by decide)
  have uN : NR υ := (rR.k (o1 11 (by decide))).k u11
  have uL : LRg υ := lr0.k (uk 15 (by decide))
  have uM : M3 υ := m30.k uk (by decide) (by decide) (by decide)
  unfold wpX10_tell
  refine ⟨by omega, fun xn => ?_, fun xp => hX _ _ (Or.inr (Or.inl ⟨rfl, AO5_of (a' := fun _ => 0) (b' := fun _ => 0) (c' := fun _ => 0) (r' := fun _ => 0) (X := fun _ => 0) (N := 0) hr ⟨a0, a2⟩ _ pp (fun _ _ => rfl) (fun τ' po _ => ?_) (fun z => absurd z (by decide))⟩)) (fin υ _ _ (uk.up (by decide)) uN uL uM).1 (fin υ _ _ (uk.up (by decide)) uN uL uM).2.1 (fun q => nA q _) (fin υ _ _ (uk.up (by decide)) uN uL uM).2.2⟩
  rotate_left
  · exfalso
    rcases po with ⟨q, -⟩ | ⟨-, q, -⟩
    · exact absurd q (by decide)
    · exact xp q
  have poB : ∀ τ' : ZS, ((1 : Int) = 0 ∧ ¬ x < 0) ∨ ((1 : Int) = 1 ∧ x < 0 ∧ RB υ τ' (zI υ 11 5) []) → RB υ τ' (zI υ 11 5) [] := fun τ' po => by
    rcases po with ⟨q, -⟩ | ⟨-, -, q⟩
    · exact absurd q (by decide)
    · exact q
  have po0 : ∀ (cd : Int) (τ' : ZS), ((0 : Int) = 0 ∧ ¬ x < 0) ∨ ((0 : Int) = 1 ∧ x < 0 ∧ RB υ τ' (zI υ 11 5) []) → cd = 2 := fun cd τ' po => by
    rcases po with ⟨-, q⟩ | ⟨q, -⟩
    · exact absurd xn q
    · exact absurd q (by decide)
  have uS : NS υ := (rS.k (o1 11 (by decide))).k u11
  by_cases h25 : 25 ≤ zI υ 11 5
  · refine x_firstWrongC uN ((rS.k (o1 11 (by decide))).k u11) ((rF.k (o1 11 (by decide))).k u11) ⟨up.2.2.2.2.1.w, up.2.2.2.2.2.1.1⟩ uL h25 (fun y ω wy wd we wp wk => ?_)
    have k2 : kp [5, 6, 11, 12, 13, 14, 15] (zsI τ 10 1 0) ω := (uk.up (by decide)).tr (wk.up (by decide))
    have wM : M3 ω := uM.k wk (by decide) (by decide) (by decide)
    have w5 := wy.2.2.2.2.1
    exact ⟨by omega, fun neg => by omega, fun _ => hX _ _ (Or.inr (Or.inr (Or.inl ⟨rfl, AO5_of (a' := fun _ => 0) (b' := fun _ => 0) (c' := fun _ => 0) (r' := fun _ => 0) (X := fun _ => 0) (N := 0) hr ⟨a0, a2⟩ _ pp (po0 3) (fun τ' po _ => Or.inl ⟨rfl, JW_no (poB τ' po) h25⟩) (fun z => absurd z (by decide))⟩))) (fin ω _ _ k2 wy.1 wy.2.2.2.2.2.2.1 wM).1 (fin ω _ _ k2 wy.1 wy.2.2.2.2.2.2.1 wM).2.1 (fun q => nA q _) (fin ω _ _ k2 wy.1 wy.2.2.2.2.2.2.1 wM).2.2⟩
  have h24 : zI υ 11 5 ≤ 24 := by omega
  have hm1 : zI υ 11 6 = -1 := by
    have e := hCT.1.2.2.2.2.2.2.2
    rw [← ob_I u11 5, ← ob_I u11 6] at e
    exact e h24
  refine x_firstWrong uN ((rS.k (o1 11 (by decide))).k u11) ((rF.k (o1 11 (by decide))).k u11) ⟨up.2.2.2.2.1.w, up.2.2.2.2.2.1.1⟩ uL h24 hm1 (fun y ω wy wd we wu wk w115 w137 w13 wdx wok w110 => ?_)
  have eyS : yS ω = yS υ := by unfold yS; rw [w137, w13 0 (by decide), w13 1 (by decide), w13 2 (by decide)]
  have k2 : kp [5, 6, 11, 12, 13, 14, 15] (zsI τ 10 1 0) ω := (uk.up (by decide)).tr (wk.up (by decide))
  have wM : M3 ω := uM.k wk (by decide) (by decide) (by decide)
  have w5 := wy.2.2.2.2.1
  refine ⟨by omega, fun neg => ?_, fun ng => hX _ _ (Or.inr (Or.inr (Or.inl ⟨rfl, AO5_of (a' := fun _ => 0) (b' := fun _ => 0) (c' := fun _ => 0) (r' := fun _ => 0) (X := fun _ => 0) (N := 0) hr ⟨a0, a2⟩ _ pp (po0 3) (fun τ' po _ => Or.inl ⟨rfl, fun jw => ng (wok.mpr (by rw [eyS]; exact (JW_ok (poB τ' po) h24).mp jw))⟩) (fun z => absurd z (by decide))⟩))) (fin ω _ _ k2 wy.1 wy.2.2.2.2.2.2.1 wM).1 (fin ω _ _ k2 wy.1 wy.2.2.2.2.2.2.1 wM).2.1 (fun q => nA q _) (fin ω _ _ k2 wy.1 wy.2.2.2.2.2.2.1 wM).2.2⟩
  obtain ⟨dx, dg⟩ := wdx neg
  have yok := wok.mp neg
  have dis := up.2.2.2.2.1
  -- the items, as the class has parsed them
  have eN : (((zI ω 13 7).toNat : Nat) : Int) = zI ω 13 7 := by have := wy.sz; omega
  have eD : yF (zA ω 13 0) (zA ω 13 1) (zA ω 13 2) (zI ω 13 7).toNat = yS ω := rfl
  have typ : ∀ j : Nat, j < (zI ω 13 7).toNat → 0 ≤ zA ω 13 0 j ∧ zA ω 13 0 j ≤ 12 := fun j hj => (wy.it (i := (j : Int)) (by omega) (by omega)).1
  have gg : ∀ j : Int, 0 ≤ j → j < zI ω 13 7 → zA ω 13 5 j = gI (zA ω 13 0) (zA ω 13 1) (zA ω 13 2) j := fun j j0 j1 => dg j j0 j1
  have nm9 : ∀ j : Int, 0 ≤ j → j < zI ω 13 7 → zA ω 13 0 j ≠ 4 → zA ω 13 0 j ≠ 5 → zA ω 13 0 j ≠ 6 → 0 ≤ zA ω 13 2 j ∧ zA ω 13 2 j < zI ω 11 5 := by
    intro j j0 j1 n4 n5 n6
    obtain ⟨i1, i2, i3, i4, i5, i6, i7, i8, i9, i10⟩ := wy.it j0 j1
    exact ⟨i6 n4 n5 n6, i3.2⟩
  have w155 : zI ω 15 5 < 0 := by omega
  have hg2 : ∀ j : Int, 0 ≤ j → j < ((zI ω 13 7).toNat : Int) → (yF (zA ω 13 0) (zA ω 13 1) (zA ω 13 2) (zI ω 13 7).toNat).so (zA ω 13 2 j) = 2 → (yF (zA ω 13 0) (zA ω 13 1) (zA ω 13 2) (zI ω 13 7).toNat).sg (zA ω 13 2 j) = gI (zA ω 13 0) (zA ω 13 1) (zA ω 13 2) j → 0 ≤ gI (zA ω 13 0) (zA ω 13 1) (zA ω 13 2) j := by
    intro j j0 j1 s2 sg
    rw [eD] at s2 sg
    rw [eN] at j1
    rw [← sg]
    by_cases n : 0 ≤ zA ω 13 2 j ∧ zA ω 13 2 j < zI ω 11 5
    · obtain ⟨e1, e2, -⟩ := dx.1 _ n.1 n.2
      rw [← e2 (Or.inr s2)]
      exact ((wy.2.2.2.2.2.2.2.1 _ n.1 n.2).2.2.1 (by rw [e1]; exact s2)).2.2 w155
    · exfalso
      -- a name that no item has is nothing
      obtain ⟨i1, i2, i3, i4, i5, i6, i7, i8, i9, i10⟩ := wy.it j0 j1
      have so := (yF_so (a := zA ω 13 0) (b := zA ω 13 1) (c := zA ω 13 2) (zI ω 13 7).toNat typ yok.1 (zA ω 13 2 j)).1.mpr s2
      rcases lI_bd (a := zA ω 13 0) (c := zA ω 13 2) (n := zA ω 13 2 j) (zI ω 13 7).toNat with q | ⟨q0, q1, q2, q3⟩
      · omega
      · obtain ⟨k1, k2', k3', k4, k5, k6, k7, k8, k9, k10⟩ := wy.it q0 (by omega)
        have := k6 (by omega) (by omega) (by omega)
        rw [q3] at this
        omega
  have hcall := HJc_of (N := (zI ω 13 7).toNat) typ yok hg2
  have hlab : ∀ j : Int, 0 ≤ j → j < ((zI ω 13 7).toNat : Int) → 7 ≤ zA ω 13 0 j → (yS ω).so (zA ω 13 2 j) = 2 → 0 ≤ lI (zA ω 13 0) (zA ω 13 2) (zA ω 13 2 j) (zI ω 13 7).toNat := fun j _ _ _ s2 => (yF_so (zI ω 13 7).toNat typ yok.1 (zA ω 13 2 j)).1.mpr s2
  have h12 : ∀ j : Int, 0 ≤ j → j < ((zI ω 13 7).toNat : Int) → zA ω 13 0 j = 12 → zA ω 13 1 j = 0 := by
    intro j j0 j1 t
    rw [eN, w137] at j1
    rw [w13 0 (by decide)] at t
    rw [w13 1 (by decide)]
    exact ((dis.2.1 j j0 j1).2.2.2.2.2.2.2.2.2 (Or.inr (Or.inr t))).2.2 t
  have hjx : HJx (zA ω 13 0) (zA ω 13 1) (zA ω 13 2) (gI (zA ω 13 0) (zA ω 13 1) (zA ω 13 2)) (yS ω).so (zI ω 13 7).toNat := by
    refine HJx_of (N := (zI ω 13 7).toNat) typ yok (fun j hj t => (wy.it (i := (j : Int)) (by omega) (by omega)).2.1.1) hg2
  have zx : ZX (zA ω 13 0) (zA ω 13 1) (zA ω 13 2) (gI (zA ω 13 0) (zA ω 13 1) (zA ω 13 2)) ω := ⟨rfl, rfl, gg, fun j _ _ _ => rfl⟩
  have v2 : ∀ j : Int, 0 ≤ j → j < zI ω 13 7 → zA ω 13 0 j = 9 → zA ω 13 1 j = 2 := by
    intro j j0 j1 t
    rw [w137] at j1
    rw [w13 0 (by decide)] at t
    rw [w13 1 (by decide)]
    exact (dis.2.1 j j0 j1).2.2.2.2.2.2.2.2.1 t
  have rr : ∀ j : Int, 0 ≤ j → j < zI ω 13 7 → zA ω 13 0 j = 9 → zA ω 11 1 (zA ω 13 2 j) = (yS ω).so (zA ω 13 2 j) := fun j j0 j1 t => by
    have n := nm9 j j0 j1 (by omega) (by omega) (by omega)
    exact (dx.1 _ n.1 n.2).1
  refine x_sizeJumps (r := (yS ω).so) ⟨wy, wd, wu neg, by omega⟩ zx rr hjx v2 (fun z ψ pz pk pe ph pfz pzx pmz pcl ple => ?_)
  have p7 : zI ψ 13 7 = zI ω 13 7 := pfz.2.1 7
  have e154 : zI ψ 15 4 = zI ω 15 4 := pfz.2.2.1 4
  have s60 := wy.2.2.2.1
  -- the reference, behind its parse
  have ref : ∀ (cd w : Int) (PM : ZS → Prop), ((cd = 4 ∧ 400 < z) ∨ (z ≤ 400 ∧ ((cd = 5 ∧ ∃ j : Int, 0 ≤ j ∧ j < zI ω 13 7 ∧ zA ω 13 0 j = 10 ∧ ¬ Sh (dS (zA ω 13 0) (zA ω 13 1) (zA ω 13 2) (gI (zA ω 13 0) (zA ω 13 1) (zA ω 13 2)) (xF ψ) (zI ω 13 7).toNat j)) ∨ (cd = 0 ∧ (∀ j : Int, 0 ≤ j → j < zI ω 13 7 → zA ω 13 0 j = 10 → Sh (dS (zA ω 13 0) (zA ω 13 1) (zA ω 13 2) (gI (zA ω 13 0) (zA ω 13 1) (zA ω 13 2)) (xF ψ) (zI ω 13 7).toNat j)) ∧ w = z)))) → (cd = 0 → ∀ υ' τ' : ZS, RB υ υ' (zI υ 11 5) [] → SUC (zA ω 13 0) (zA ω 13 1) (zA ω 13 2) (yS ω).so (zI ω 13 7).toNat (xF ψ) υ' a τ' → PM τ') → AO5 ρ a cd w N' PM := by
    intro cd w PM out hpm
    refine AO5_of (a' := zA ω 13 0) (b' := zA ω 13 1) (c' := zA ω 13 2) (r' := (yS ω).so) (X := xF ψ) (N := (zI ω 13 7).toNat) hr ⟨a0, a2⟩ _ pp (po0 cd) (fun τ' po g => Or.inr ?_) (fun z υ' τ' po sc => hpm z υ' τ' (poB υ' po) sc)
    have rb := poB τ' po
    have jw := (JW_ok rb h24).mpr (by rw [← eyS]; exact yok)
    obtain ⟨-, ⟨b1, b2⟩, b3, b4⟩ := rb
    obtain ⟨c1, c2, c3⟩ := b4 h24
    rw [← eyS] at c1 c2
    have sume : psum (fun s => oS (zA ω 13 0) (zA ω 13 1) (gI (zA ω 13 0) (zA ω 13 1) (zA ω 13 2)) (xF ψ) s (zI ω 13 7).toNat) (zI τ' 0 34).toNat = z := by
      rw [pe, c1.2.2.1, e154, dx.2.1]
      exact (psum_ext _ (fun s s0 s1 => pmz.1 s s0 (by have := dx.2.1; omega))).symm
    refine ⟨jw, ⟨typ, yok.1, c2⟩, fun j j0 j1 t => ?_, hjx, pcl, ple, ⟨hlab, hcall, h12⟩, ?_⟩
    · rw [eN] at j1
      have n := nm9 j j0 j1 (by omega) (by omega) (by omega)
      rw [w115] at n
      exact (c1.1 _ n.1 n.2).1
    · rw [sume, eN]
      exact out
  have k3 : kp [5, 6, 11, 12, 13, 14, 15] (zsI τ 10 1 0) ψ := k2.tr (pk.up (by decide))
  have pM : M3 ψ := wM.k pk (by decide) (by decide) (by decide)
  refine ⟨by omega, fun le => ?_, fun gt => hX _ _ (Or.inr (Or.inr (Or.inr (Or.inl ⟨rfl, ref 4 0 (fun _ => True) (Or.inl ⟨rfl, by omega⟩) (fun z => absurd z (by decide))⟩)))) (fin ψ _ _ k3 pz.1.1 pz.1.2.2.2.2.2.2.1 pM).1 (fin ψ _ _ k3 pz.1.1 pz.1.2.2.2.2.2.2.1 pM).2.1 (fun q => nA q _) (fin ψ _ _ k3 pz.1.1 pz.1.2.2.2.2.2.2.1 pM).2.2⟩
  have wpl : ∀ j : Int, 0 ≤ j → j < zI ψ 13 7 → zA ω 13 0 j = 10 → 0 ≤ zA ψ 13 4 j := by
    intro j j0 j1 t
    obtain ⟨i1, i2, i3, i4, i5, i6, i7, i8, i9, i10⟩ := pz.1.it j0 j1
    have t' : zA ψ 13 0 j = 10 := by rw [pzx.1]; exact t
    exact (i10 (Or.inr (Or.inl t'))).2.1 t'
  have sz15 : ∀ s : Int, 0 ≤ s → s < 60 → zA ψ 15 3 s = oS (zA ω 13 0) (zA ω 13 1) (gI (zA ω 13 0) (zA ω 13 1) (zA ω 13 2)) (xF ψ) s (zI ω 13 7).toNat := fun s s0 s1 => pmz.1 s s0 s1
  have ns60 : 0 ≤ zI ψ 15 4 ∧ zI ψ 15 4 ≤ 60 := pz.1.2.2.2.1
  have st15 : ∀ s : Int, 0 ≤ s → s ≤ zI ψ 15 4 → psum (zA ψ 15 3) s.toNat = stS (zA ω 13 0) (zA ω 13 1) (gI (zA ω 13 0) (zA ω 13 1) (zA ω 13 2)) (xF ψ) (zI ω 13 7).toNat s := fun s s0 s1 => psum_ext _ (fun j j0 j1 => sz15 j j0 (by omega))
  have hWX : WX (zA ω 13 0) (zA ω 13 1) (zA ω 13 2) (gI (zA ω 13 0) (zA ω 13 1) (zA ω 13 2)) (yS ω).so (zI ω 13 7).toNat a ψ := by
    refine ⟨pz, pzx, by rw [p7]; exact pmz, hjx, by rw [p7]; exact eN.symm, fun n n0 n1 => ?_, fun s s0 s1 => ?_, hcall, fun n n0 n1 s2 => ?_⟩
    · rw [pfz.1 5] at n1
      rw [pfz.2.2.2.1 1 (by decide)]
      exact (dx.1 n n0 n1).1
    · rw [← st_s s0, ← st15 (s + 1) (by omega) (by omega)]
      have m1 := psum_mono (f := zA ψ 15 3) (m := (s + 1).toNat) (zI ψ 15 4).toNat (by omega) (fun j j0 j1 => (pz.1.2.2.2.2.2.2.1 j j0 (by omega)).2.1)
      omega
    · rw [pfz.1 5] at n1
      have so := yF_so (a := zA ω 13 0) (b := zA ω 13 1) (c := zA ω 13 2) (zI ω 13 7).toNat typ yok.1 n
      have d1 := dx.1 n n0 n1
      have s2' : (yS ω).so n = 2 := s2
      refine ⟨so.1.mpr s2, ?_⟩
      rw [← so.2 s2]
      show 0 ≤ (yS ω).sg n
      rw [← d1.2.1 (Or.inr s2')]
      exact ((wy.2.2.2.2.2.2.2.1 n n0 n1).2.2.1 (by rw [d1.1]; exact s2')).2.2 w155
  refine x_firstTooFar (r := (yS ω).so) pz pzx (by rw [p7]; exact pmz) (by rw [p7]; exact hjx) wpl (fun f hf ftf => ?_)
  rw [p7] at ftf
  refine ⟨by omega, fun fn => ⟨by omega, x_write (N := (zI ω 13 7).toNat) ⟨a0, a2⟩ hWX (by rw [← pe]; exact le) (by rw [pfz.1 5, w115]; exact h24) (fun i i0 i1 t x0 => (pcl i i0 i1 t x0).1) (fun χ xm xk x0 xg xc xp => ?_)⟩, fun fp => hX _ _ (Or.inr (Or.inr (Or.inr (Or.inr ⟨rfl, ref 5 0 (fun _ => True) (Or.inr ⟨le, Or.inl ⟨rfl, ?_⟩⟩) (fun z => absurd z (by decide))⟩)))) (fin ψ _ _ k3 pz.1.1 pz.1.2.2.2.2.2.2.1 pM).1 (fin ψ _ _ k3 pz.1.1 pz.1.2.2.2.2.2.2.1 pM).2.1 (fun q => nA q _) (fin ψ _ _ k3 pz.1.1 pz.1.2.2.2.2.2.2.1 pM).2.2⟩
  rotate_left
  · refine Classical.byContradiction (fun no => fp (ftf.mpr (fun j j0 j1 t => Classical.byContradiction (fun ns => no ⟨j, j0, j1, t, ns⟩))))
  -- written
  have na : ∀ g : Int, 3 ≤ g → g ∉ [a] := fun g hg => n_1 (by omega)
  have kk : ∀ g : Int, g ≠ 10 → ob (zsI (zsI χ 10 2 (-1)) 10 3 (-1)) g = ob χ g := fun g hg => (ob_i hg).trans (ob_i hg)
  have f1 := fin ψ (-1) (-1) k3 pz.1.1 pz.1.2.2.2.2.2.2.1 pM
  have same : ∀ g : Int, 3 ≤ g → ob (zsI (zsI χ 10 2 (-1)) 10 3 (-1)) g = ob (zsI (zsI ψ 10 2 (-1)) 10 3 (-1)) g := by
    intro g hg
    by_cases e : g = 10
    · have e10 := xk 10 (na 10 (by decide))
      rw [e]
      unfold ob at e10 ⊢
      have e1 := congrArg Prod.fst e10
      have e2 := congrArg Prod.snd e10
      refine Prod.ext (funext fun f => ?_) e2
      have q := congrFun e1 f
      show (if (10 : Int) = 10 then (if f = 3 then (-1 : Int) else (if (10 : Int) = 10 then (if f = 2 then (-1 : Int) else χ.1 10 f) else χ.1 10 f)) else (if (10 : Int) = 10 then (if f = 2 then (-1 : Int) else χ.1 10 f) else χ.1 10 f)) = (if (10 : Int) = 10 then (if f = 3 then (-1 : Int) else (if (10 : Int) = 10 then (if f = 2 then (-1 : Int) else ψ.1 10 f) else ψ.1 10 f)) else (if (10 : Int) = 10 then (if f = 2 then (-1 : Int) else ψ.1 10 f) else ψ.1 10 f))
      rw [show χ.1 10 f = ψ.1 10 f from q]
    · rw [(ob_i e).trans (ob_i e), (ob_i e).trans (ob_i e)]; exact xk g (na g hg)
  have mlx : ∀ υ' τ' : ZS, RB υ υ' (zI υ 11 5) [] → SUC (zA ω 13 0) (zA ω 13 1) (zA ω 13 2) (yS ω).so (zI ω 13 7).toNat (xF ψ) υ' a τ' → MLx (zsI (zsI χ 10 2 (-1)) 10 3 (-1)) τ' a := by
    intro υ' τ' rb sc
    obtain ⟨q1, q2, q3, q4, q5⟩ := sc
    obtain ⟨-, ⟨-, rw0⟩, -, b4⟩ := rb
    obtain ⟨k1, -, k3⟩ := b4 h24
    rw [← eyS] at k1 k3
    have ea := kk a (by omega)
    have ens : zI υ' 0 34 = zI ψ 15 4 := by rw [k1.2.2.1, e154, dx.2.1]
    have tgt : ∀ i : Int, 0 ≤ i → i < zI ω 13 7 → 7 ≤ zA ω 13 0 i → zA ψ 11 2 (zA ω 13 2 i) = (if zA υ' 0 13 (zA ω 13 2 i) = 3 then -1 else zA υ' 0 14 (zA ω 13 2 i)) := by
      intro i i0 i1 t
      have n := nm9 i i0 i1 (by omega) (by omega) (by omega)
      have d1 := dx.1 _ n.1 n.2
      have y1 := k1.1 _ n.1 (by rw [← w115]; exact n.2)
      have ne : (yS ω).so (zA ω 13 2 i) ≠ 0 := so_ne typ yok i0 (by omega) t
      have rg := (wy.1 _ n.1 (by have := wy.2.1.1; omega)).2.1
      rw [pfz.2.2.2.1 2 (by decide), y1.1]
      by_cases s3 : (yS ω).so (zA ω 13 2 i) = 3
      · rw [if_pos s3]
        exact (wy.2.2.2.2.2.2.2.1 _ n.1 n.2).2.2.2 (by rw [d1.1]; exact s3)
      · have s12 : (yS ω).so (zA ω 13 2 i) = 1 ∨ (yS ω).so (zA ω 13 2 i) = 2 := by
          rw [d1.1] at rg
          omega
        rw [if_neg s3, d1.2.1 s12, y1.2.1 s12]
    -- words
    have e0 : zA ψ 11 0 = zA υ 11 0 := (pfz.2.2.2.1 0 (by decide)).trans w110
    have wd : ∀ n : Int, 0 ≤ n → n < zI ω 11 5 → RW (zA υ' 0 12 n) (zA ψ 11 0 n) := fun n n0 n1 => by rw [e0]; exact rw0 n n0 (by rw [← w115]; exact n1)
    have inj : ∀ n n' : Int, 0 ≤ n → n < zI ω 11 5 → 0 ≤ n' → n' < zI ω 11 5 → zA ψ 11 0 n = zA ψ 11 0 n' → n = n' := by
      intro n n' a1 a2 a3 a4 e
      rw [e0] at e
      have nd := hCT.1.2.2.2.2.2.2.1
      rw [← ob_I u11 5, ← ob_A u11 0] at nd
      exact nd n n' a1 (by rw [← w115]; exact a2) a3 (by rw [← w115]; exact a4) e
    -- a public's name
    have pb : ∀ j : Int, 0 ≤ j → j < zI ω 13 7 → zA ω 13 0 j = 2 → (0 ≤ zA ω 13 2 j ∧ zA ω 13 2 j < zI ω 11 5) ∧ zA υ' 0 14 (zA ω 13 2 j) = zA ψ 11 2 (zA ω 13 2 j) ∧ 0 ≤ lI (zA ω 13 0) (zA ω 13 2) (zA ω 13 2 j) (zI ω 13 7).toNat ∧ loS (zA ω 13 0) (zA ω 13 1) (zA ω 13 2) (gI (zA ω 13 0) (zA ω 13 1) (zA ω 13 2)) (xF ψ) (zI ω 13 7).toNat (zA ω 13 2 j) = zA ψ 11 4 (zA ω 13 2 j) := by
      intro j j0 j1 t
      have n := nm9 j j0 j1 (by omega) (by omega) (by omega)
      have d1 := dx.1 _ n.1 n.2
      have y1 := k1.1 _ n.1 (by rw [← w115]; exact n.2)
      have s2 : (yS ω).so (zA ω 13 2 j) = 2 := (uOK_at typ yok j j0 (by omega)).1 (by rw [t]; rfl)
      have lb := hWX.2.2.2.2.2.2.2.2 (zA ω 13 2 j) n.1 (by rw [pfz.1 5]; exact n.2) s2
      refine ⟨n, ?_, lb.1, ?_⟩
      · rw [pfz.2.2.2.1 2 (by decide), y1.2.1 (Or.inr s2), d1.2.1 (Or.inr s2)]
      · exact (pmz.2.2 _ lb.1 lb.2).symm
    have us := yF_pub (a := zA ω 13 0) (b := zA ω 13 1) (c := zA ω 13 2) (zI ω 13 7).toNat typ
    have uu : zI υ' 0 23 = (yS ω).u.nu ∧ ∀ i : Int, 0 ≤ i → i < (yS ω).u.nu → zA υ' 0 19 i = (yS ω).u.uk i ∧ zA υ' 0 20 i = (yS ω).u.un i := ⟨k3.1, fun i i0 i1 => ⟨(k3.2 i i0 i1).1, (k3.2 i i0 i1).2.1⟩⟩
    obtain ⟨pn, gi, p1, p2⟩ := xp
    have pf : ∀ k : Int, 0 ≤ k → k < zA τ' 0 56 a → ∃ q : Int, (0 ≤ q ∧ q < zI χ a 13) ∧ RW (zA τ' 0 57 (80 * a + k)) (zA χ a 14 q) ∧ zA τ' 0 58 (80 * a + k) = zA χ a 15 q ∧ zA τ' 0 59 (80 * a + k) = zA χ a 16 q := by
      intro k k0 k1'
      obtain ⟨u, u1, u2, u3, u4, u5⟩ := q4 k k0 k1'
      obtain ⟨v1, v2⟩ := uu.2 u u1.1 (by rw [← uu.1]; exact u1.2)
      obtain ⟨j, j1, j2, j3⟩ := us.1 u u1.1 (show u < (yS ω).u.nu by rw [← uu.1]; exact u1.2) (show (yS ω).u.uk u = 0 by rw [← v1]; exact u2)
      have en : zA υ' 0 20 u = zA ω 13 2 j := v2.trans j3.symm
      obtain ⟨w1, w2, w3, w4⟩ := pb j j1.1 (by omega) j2
      obtain ⟨q, qb, qw⟩ := p2 j j1.1 j1.2 j2
      obtain ⟨⟨x1, -⟩, ⟨x3, x4, x5⟩, -⟩ := p1 q qb.1 qb.2
      have same : pn q = zA ω 13 2 j := inj _ _ x1.1 (by rw [← pfz.1 5]; exact x1.2) w1.1 w1.2 (x3.symm.trans qw)
      rw [en] at u3 u4 u5
      refine ⟨q, qb, ?_, ?_, ?_⟩
      · rw [u3, x3, same]; exact wd _ w1.1 w1.2
      · rw [u4, x4, same]; exact w2
      · rw [u5 w3, x5, same]; exact w4
    have pr : ∀ q : Int, 0 ≤ q → q < zI χ a 13 → ∃ k : Int, (0 ≤ k ∧ k < zA τ' 0 56 a) ∧ RW (zA τ' 0 57 (80 * a + k)) (zA χ a 14 q) ∧ zA τ' 0 58 (80 * a + k) = zA χ a 15 q ∧ zA τ' 0 59 (80 * a + k) = zA χ a 16 q := by
      intro q q0 q1'
      obtain ⟨⟨x1, -⟩, ⟨x3, x4, x5⟩, j, j1, j2, j3⟩ := p1 q q0 q1'
      obtain ⟨w1, w2, w3, w4⟩ := pb j j1.1 (by omega) j2
      have ej : ((j.toNat : Nat) : Int) = j := by omega
      obtain ⟨u, u1, u2, u3⟩ := us.2 j.toNat (by omega) (by rw [ej]; exact j2)
      rw [ej] at u3
      obtain ⟨v1, v2⟩ := uu.2 u u1.1 u1.2
      have en : zA υ' 0 20 u = zA ω 13 2 j := v2.trans u3
      obtain ⟨k, kb, k4, k5, k6⟩ := q5 u u1.1 (by rw [uu.1]; exact u1.2) (by rw [v1]; exact u2)
      rw [en] at k4 k5 k6
      refine ⟨k, kb, ?_, ?_, ?_⟩
      · rw [k4, x3, ← j3]; exact wd _ w1.1 w1.2
      · rw [k5, x4, ← j3]; exact w2
      · rw [k6 w3, x5, ← j3]; exact w4
    have pd : ∀ q q' : Int, 0 ≤ q → q < zI χ a 13 → 0 ≤ q' → q' < zI χ a 13 → zA χ a 14 q = zA χ a 14 q' → q = q' := by
      intro q q' a1 a2 a3 a4 e
      obtain ⟨⟨x1, x2⟩, ⟨x3, -, -⟩, -⟩ := p1 q a1 a2
      obtain ⟨⟨y1, y2⟩, ⟨y3, -, -⟩, -⟩ := p1 q' a3 a4
      have same : pn q = pn q' := inj _ _ x1.1 (by rw [← pfz.1 5]; exact x1.2) y1.1 (by rw [← pfz.1 5]; exact y1.2) (by rw [← x3, ← y3]; exact e)
      rw [← x2, ← y2, same]
    have p2k : ∀ k : Int, 0 ≤ k → k < zI χ a 7 → zA χ a 8 k = 2 → zA χ a 11 k < 0 := by
      intro k k0 k1' y
      rw [xc.2.1] at k1'
      obtain ⟨x1, -, -, x4, -⟩ := xc.2.2 k k0 k1'
      rw [x1] at y
      have r3 := mK_k (zI ω 13 7).toNat k k0 k1' y
      obtain ⟨i, i1, i2, i3⟩ := mK_fn (zI ω 13 7).toNat k k0 k1'
      rw [i3] at r3
      have n := nm9 i i1.1 (by omega) (by omega) (by omega) (by omega)
      have d1 := dx.1 _ n.1 n.2
      rw [x4, i3, pfz.2.2.2.1 2 (by decide), (wy.2.2.2.2.2.2.2.1 _ n.1 n.2).2.2.2 (by rw [d1.1]; exact r3)]
      decide
    unfold MLx
    rw [ob_I ea 1, ob_I ea 7, ob_I ea 13, ob_A ea 2, ob_A ea 3, ob_A ea 4, ob_A ea 5, ob_A ea 6, ob_A ea 8, ob_A ea 9, ob_A ea 10, ob_A ea 11, ob_A ea 12, ob_A ea 14, ob_A ea 15, ob_A ea 16]
    refine ⟨⟨by rw [xg.1, q1, ens], fun s s0 s1 => ?_⟩, fun j j0 j1 => by rw [q3.1 j j0 j1, xc.1 j j0 j1], ⟨by rw [xc.2.1, q3.2.1], fun k k0 k1' => ?_⟩, pf, pr, pd, p2k⟩
    · rw [xg.1] at s1
      obtain ⟨x2, x3, x4, x5⟩ := xg.2 s s0 s1
      obtain ⟨y1, y2, y3, y4⟩ := q2 s s0 (by omega)
      have sn1 : zA ψ 15 2 s = (yS ω).sn s := by rw [pfz.2.2.2.2.2 2 (by decide)]; exact dx.2.2.1 s s0 (by rw [← dx.2.1, ← e154]; exact s1)
      have sn2 : zA υ' 0 35 s = (yS ω).sn s := k1.2.2.2.1 s s0 (by rw [← dx.2.1, ← e154]; exact s1)
      obtain ⟨z1, z2, z3⟩ := wy.2.2.2.2.2.2.2.2 s s0 (by rw [← e154]; exact s1)
      have sn3 : zA ω 15 2 s = (yS ω).sn s := dx.2.2.1 s s0 (by rw [← dx.2.1, ← e154]; exact s1)
      rw [sn3] at z1 z2
      have d1 := dx.1 _ z1.1 z1.2
      have o1 := k1.1 _ z1.1 (by rw [← w115]; exact z1.2)
      have so1 : (yS ω).so ((yS ω).sn s) = 1 := by rw [← d1.1]; exact z2
      rw [x2, x3, x4, x5, y1, y2, y3, y4, sz15 s s0 (by omega), st15 s s0 (by omega), sn1, sn2, pfz.2.2.2.1 3 (by decide), d1.2.2 so1, o1.2.2 so1]
      exact ⟨rfl, rfl, rfl, wd _ z1.1 z1.2⟩
    · rw [xc.2.1] at k1'
      obtain ⟨x1, x2, x3, x4, x5⟩ := xc.2.2 k k0 k1'
      obtain ⟨y1, y2, y3, y4, y5⟩ := q3.2.2 k k0 k1'
      obtain ⟨i, i1, i2, i3⟩ := mK_fn (zI ω 13 7).toNat k k0 k1'
      have n := nm9 i i1.1 (by omega) (by omega) (by omega) (by omega)
      rw [x1, x2, x3, x4, x5, y1, y2, y3, y4, y5, i3, tgt i i1.1 (by omega) i2]
      exact ⟨rfl, rfl, rfl, rfl, wd _ n.1 n.2⟩
  obtain ⟨⟨c1, c2, c3, c4, c5, c6, c7⟩, c8, c9⟩ := f1
  refine hQ z _ ⟨c1.k (same 10 (by decide)), c2.k (same 11 (by decide)), c3.k (same 15 (by decide)), fun m m0 m2 => ?_, c5.k (same 16 (by decide)), c6.k (same 17 (by decide)), c7.k (same 18 (by decide))⟩ ((ob_I (same 10 (by decide)) 1).trans c8) (fun q => nA q _) (ref 0 z _ (Or.inr ⟨le, Or.inr ⟨rfl, ftf.mp fn, rfl⟩⟩) (fun _ => mlx)) ⟨a0, a2⟩ (fun m m0 m2 ne => ?_) ?_
  · by_cases e : m = a
    · rw [e]; exact xm.k (kk a (by omega))
    · exact (pM m m0 m2).k ((kk m (by omega)).trans (xk m (n_1 e)))
  · exact ((kk m (by omega)).trans (xk m (n_1 ne))).trans ((((ob_i (show m ≠ 10 by omega)).trans (ob_i (show m ≠ 10 by omega))).symm).trans (c9 m m0 m2))
  · exact (ob_I (kk a (by omega)) 0).trans x0
