/-! X: the class writes a module, whole -/
def WG (σ : ZS) (m : Int) (τ : ZS) (v : Int) : Prop := zI τ m 1 = v ∧ ∀ s : Int, 0 ≤ s → s < v → zA τ m 2 s = zA σ 11 0 (zA σ 15 2 s) ∧ zA τ m 3 s = zA σ 11 3 (zA σ 15 2 s) ∧ zA τ m 4 s = zA σ 15 3 s ∧ zA τ m 5 s = psum (zA σ 15 3) s.toNat
theorem WG.k {σ τ υ : ZS} {m v : Int} (h : WG σ m τ v) (e1 : zI υ m 1 = zI τ m 1) (e2 : zA υ m 2 = zA τ m 2) (e3 : zA υ m 3 = zA τ m 3) (e4 : zA υ m 4 = zA τ m 4) (e5 : zA υ m 5 = zA τ m 5) : WG σ m υ v := by
  unfold WG; rw [e1, e2, e3, e4, e5]; exact h
theorem mI_d {a b c g X r : Int → Int} {N : Nat} {d : MD} {i : Int} (h : g i < 0 ∨ a i = 2) : mI a b c g X r N d i = d := by
  unfold mI
  by_cases q : g i < 0
  · rw [if_pos q]
  · have t : a i = 2 := h.resolve_left q
    rw [if_neg q, if_neg (by omega), if_neg (by omega), if_neg (by omega), if_neg (by omega), if_neg (by omega), if_neg (by omega), if_neg (by omega), if_neg (by omega)]
theorem mK_s {a b c g X r : Int → Int} {N : Nat} {v : Int} (h : 0 ≤ v) : mK a b c g X r N (v + 1).toNat = mI a b c g X r N (mK a b c g X r N v.toNat) v := by
  rw [show (v + 1).toNat = v.toNat + 1 by omega]
  show mI a b c g X r N (mK a b c g X r N v.toNat) (v.toNat : Int) = _
  rw [show ((v.toNat : Nat) : Int) = v by omega]
theorem x_write {a b c g r : Int → Int} {N : Nat} {m : Int} {σ : ZS} {Q : ZS → Prop} (hm : 0 ≤ m ∧ m ≤ 2) (hW : WX a b c g r N m σ) (h4 : psum (zA σ 15 3) (zI σ 15 4).toNat ≤ 400) (h24 : zI σ 11 5 ≤ 24) (hsh : ∀ i : Int, 0 ≤ i → i < N → a i = 9 → xF σ i = 0 → r (c i) ≠ 3) (hQ : ∀ τ : ZS, MO τ m → kp [m] σ τ → zI τ m 0 = 1 → WG σ m τ (zI σ 15 4) → MC (zA σ 11 0) (zA σ 11 2) τ m (mK a b c g (xF σ) r N N) → PBx a c (zA σ 11 0) (zA σ 11 2) (zA σ 11 4) (zI σ 11 5) m N τ → Q τ) : wpX2_write m σ Q := by
  obtain ⟨h, h2, h3, hj, h5, h6, h7, h8, h9⟩ := id hW
  have hf := h.few
  obtain ⟨⟨a1, a2, a3, a4, a5, a6, a7, a8, a9⟩, hd, hu, hw⟩ := id h
  have nn : ∀ j : Int, 0 ≤ j → j < ((zI σ 15 4).toNat : Int) → 0 ≤ zA σ 15 3 j := fun j j0 j1 => (a7 j j0 (by omega)).2.1
  have pm : ∀ n : Int, 0 ≤ n → n ≤ zI σ 15 4 → 0 ≤ psum (zA σ 15 3) n.toNat ∧ psum (zA σ 15 3) n.toNat ≤ 400 := by
    intro n n0 n1
    have q1 := psum_nn (f := zA σ 15 3) n.toNat (fun j j0 j1 => nn j j0 (by omega))
    have q2 := psum_mono (f := zA σ 15 3) (m := n.toNat) (zI σ 15 4).toNat (by omega) nn
    omega
  have ps : ∀ n : Int, 0 ≤ n → psum (zA σ 15 3) (n + 1).toNat = psum (zA σ 15 3) n.toNat + zA σ 15 3 n := by
    intro n n0
    rw [show (n + 1).toNat = n.toNat + 1 by omega]
    show psum (zA σ 15 3) n.toNat + zA σ 15 3 ((n.toNat : Nat) : Int) = _
    rw [show ((n.toNat : Nat) : Int) = n by omega]
  have sz : ∀ s : Int, 0 ≤ s → s < 60 → zA σ 15 3 s = oS a b g (xF σ) s N := by
    intro s s0 s1
    have := h3.1 s s0 s1
    rw [h5] at this
    exact this
  have ste : ∀ s : Int, 0 ≤ s → s ≤ zI σ 15 4 → psum (zA σ 15 3) s.toNat = stS a b g (xF σ) N s := fun s s0 s1 => psum_ext _ (fun j j0 j1 => sz j j0 (by omega))
  have tot : tS a b g (xF σ) N ≤ 400 := by
    have e := tS_eq (a := a) (b := b) (g := g) (X := xF σ) (ns := (zI σ 15 4).toNat) N (fun j hj' => by
      have q := hd (j : Int) (by omega) (by omega)
      rw [h2.2.2.1 (j : Int) (by omega) (by omega)] at q
      omega)
    have e2 := ste (zI σ 15 4) a4.1 (Int.le_refl _)
    unfold stS at e2
    omega
  unfold wpX2_write
  refine ⟨hm, x_mclear hm (fun τ0 m0 k0 e0 e1 e7 e13 e6 => ?_)⟩
  have m1 : MO (zsI τ0 m 0 1) m := by
    obtain ⟨b0, b1, b7, b13, b⟩ := m0
    unfold MO MSg MBy MFx MPb
    rw [zI_s, zI_f (by decide), zI_f (by decide), zI_f (by decide)]
    exact ⟨by decide, b1, b7, b13, b⟩
  have k1 : kp [m] σ (zsI τ0 m 0 1) := k0.ti m_1
  have g1 : zI (zsI τ0 m 0 1) m 1 = 0 := (zI_f (by decide)).trans e1
  have g7 : zI (zsI τ0 m 0 1) m 7 = 0 := (zI_f (by decide)).trans e7
  have g13 : zI (zsI τ0 m 0 1) m 13 = 0 := (zI_f (by decide)).trans e13
  have c0 : MC (zA σ 11 0) (zA σ 11 2) (zsI τ0 m 0 1) m mD0 := ⟨fun j j0 j1 => e6 j j0 j1, g7, fun k k0 k1 => absurd (show k < 0 from k1) (by omega)⟩
  -- items
  have f62 : ∀ τ : ZS, MO τ m → kp [m] σ τ → zI τ m 0 = 1 → WG σ m τ (zI σ 15 4) → MC (zA σ 11 0) (zA σ 11 2) τ m mD0 → zI τ m 13 = 0 → wpX2_write_62 m 0 τ Q := by
    intro τ tm tk t0 tg tc t13
    unfold wpX2_write_62
    refine lfp1_ind (fun v _ => (248 - v).toNat) (fun v υ => MO υ m ∧ kp [m] σ υ ∧ zI υ m 0 = 1 ∧ WG σ m υ (zI σ 15 4) ∧ MC (zA σ 11 0) (zA σ 11 2) υ m (mK a b c g (xF σ) r N v.toNat) ∧ PBx a c (zA σ 11 0) (zA σ 11 2) (zA σ 11 4) (zI σ 11 5) m v υ ∧ (0 ≤ v ∧ v ≤ zI σ 13 7)) (fun K v υ hI ih => ?_) ⟨tm, tk, t0, tg, tc, ⟨fun _ => 0, fun _ => 0, fun q q0 q1 => absurd q1 (by omega), fun j j0 j1 => absurd j1 (by omega)⟩, by decide, h.1.sz.1⟩
    obtain ⟨um, uk, u0, ug, uc, up, v0, v1⟩ := hI
    obtain ⟨ux, uxf⟩ := hW.k hm uk
    have uz := ux.1
    have e11 := uk 11 (n_1 (by omega))
    have e13 := uk 13 (n_1 (by omega))
    have e15 := uk 15 (n_1 (by omega))
    have s7 := ob_I e13 7
    have hz := uz.1.sz
    have hN := uz.1.2.1.1
    have uwm : WM a b g N m υ := by
      refine ⟨by rw [ug.1, ob_I e15 4], fun s s0 s1 => ?_⟩
      rw [ob_I e15 4] at s1
      rw [(ug.2 s s0 s1).2.2.2, uxf, ste s s0 (by omega)]
    unfold wpbX2_write_62 wpX2_write_148
    refine ⟨by omega, by omega, fun le => ?_, fun lt => ?_⟩
    · have ev : v = (N : Int) := by omega
      rw [ev] at uc up
      exact hQ υ um uk u0 ug uc up
    obtain ⟨i1, i2, i3, i4, i5, i6, i7, i8, i9, i10⟩ := uz.1.it v0 (show v < zI υ 13 7 by omega)
    have ud := uz.2.1 v v0 (by omega)
    have us := uz.1.2.2.2.1
    have ea : zA υ 13 0 v = a v := by rw [ux.2.1.1]
    have ec : zA υ 13 2 v = c v := by rw [ux.2.1.2.1]
    have eg : zA υ 13 5 v = g v := ux.2.1.2.2.1 v v0 (by omega)
    refine ⟨by omega, by omega, fun n2 => ⟨by omega, fun neg => ?_, fun nn' => ?_⟩, fun e2 => ?_⟩
    · refine ih _ _ ⟨um, uk, u0, ug, ?_, up.s (by rw [← ea]; exact n2), by omega, by omega⟩ (by omega)
      rw [mK_s v0, mI_d (Or.inl (by rw [← eg]; exact neg))]; exact uc
    · have nf := mK_nf (a := a) (b := b) (c := c) (g := g) (X := xF σ) (r := r) (N := N) v.toNat (fun j hj' => hj.2.2 j (by omega))
      have mo := tS_mo (a := a) (b := b) (g := g) (X := xF σ) (m := v.toNat + 1) N (by omega) hj.2.2
      have st : tS a b g (xF σ) (v.toNat + 1) = tS a b g (xF σ) v.toNat + (if g v < 0 then 0 else sI a b (xF σ) v) := by
        show tS a b g (xF σ) v.toNat + (if g (v.toNat : Int) < 0 then 0 else sI a b (xF σ) (v.toNat : Int)) = _
        rw [show ((v.toNat : Nat) : Int) = v by omega]
      rw [if_neg (by rw [← eg]; exact nn')] at st
      refine x_writeItem (d := mK a b c g (xF σ) r N v.toNat) hm ux uwm um ⟨v0, by omega⟩ (by omega) (by rw [← ea]; exact n2) (by rw [uxf]; omega) (by rw [ob_A e11 0, ob_A e11 2]; exact uc) (by rw [uxf]; exact hsh v v0 (by omega)) (fun ω wm wk wg wc => ?_)
      rw [ob_A e11 0, ob_A e11 2, uxf] at wc
      refine ih _ _ ⟨wm, uk.tr wk, wg.1.1.trans u0, ug.k wg.1.2.1 wg.2.1 wg.2.2.1 wg.2.2.2.1 wg.2.2.2.2.1, ?_, (up.s (by rw [← ea]; exact n2)).k wg.1.2.2 wg.2.2.2.2.2.1 wg.2.2.2.2.2.2.1 wg.2.2.2.2.2.2.2, by omega, by omega⟩ (by omega)
      rw [mK_s v0]; exact wc
    · have hn := i6 (by omega) (by omega) (by omega)
      have r2 := uz.2.2.1 v v0 (by omega) e2
      have sg := (uz.1.2.2.2.2.2.2.2.1 _ hn i3.2).2.2.1 r2
      have fw := uz.few
      have hr := uz.1.1 _ hn (show zA υ 13 2 v < 240 by omega)
      have ww := uz.2.2.2
      have n5 := ob_I e11 5
      rw [ec] at hn i3 sg hr ⊢
      rw [ob_A e11 0, ob_A e11 2, ob_A e11 4] at *
      refine ⟨by omega, hm, x_addPublic hm um ⟨by omega, h24⟩ up v0 (by rw [← ea]; exact e2) (by omega) hr.1 ⟨sg.2.2 ww, by omega⟩ hr.2.2.2.2 (fun ω wm wk wq wp => ?_)⟩
      refine ih _ _ ⟨wm, uk.tr wk, wq.1.1.trans u0, ug.k wq.1.2.1 (wq.2 2 (by decide) (by decide) (by decide)) (wq.2 3 (by decide) (by decide) (by decide)) (wq.2 4 (by decide) (by decide) (by decide)) (wq.2 5 (by decide) (by decide) (by decide)), ?_, wp, by omega, by omega⟩ (by omega)
      rw [mK_s v0, mI_d (Or.inr (by rw [← ea]; exact e2))]
      unfold MC
      rw [wq.2 6 (by decide) (by decide) (by decide), wq.1.2.2, wq.2 8 (by decide) (by decide) (by decide), wq.2 9 (by decide) (by decide) (by decide), wq.2 10 (by decide) (by decide) (by decide), wq.2 11 (by decide) (by decide) (by decide), wq.2 12 (by decide) (by decide) (by decide)]
      exact uc
  unfold wpX2_write_11
  refine lfp1_ind (fun v _ => (60 - v).toNat) (fun v υ => MO υ m ∧ kp [m] σ υ ∧ zI υ m 0 = 1 ∧ WG σ m υ v ∧ MC (zA σ 11 0) (zA σ 11 2) υ m mD0 ∧ zI υ m 13 = 0 ∧ (0 ≤ v ∧ v ≤ zI σ 15 4)) (fun K v υ hI ih => ?_) ⟨m1, k1, zI_s, ⟨g1, fun s s0 s1 => absurd s1 (by omega)⟩, c0, g13, by decide, a4.1⟩
  obtain ⟨um, uk, u0, ug, uc, u13, v0, v1⟩ := hI
  have e15 := uk 15 (n_1 (by omega))
  have e11 := uk 11 (n_1 (by omega))
  have s4 := ob_I e15 4
  have uc1 := ug.1
  unfold wpbX2_write_11
  refine ⟨by omega, by omega, fun _ => f62 υ um uk u0 (by rw [show zI σ 15 4 = v by omega]; exact ug) uc u13, fun lt => ?_⟩
  rw [ob_A e15 2, ob_A e15 3, ob_A e11 0, ob_A e11 3]
  obtain ⟨z1, z2, z3⟩ := a9 v v0 (by omega)
  have hN := a2.1
  have hr := a1 _ z1.1 (show zA σ 15 2 v < 240 by omega)
  have al1 := ((a8 _ z1.1 z1.2).2.1 z2).2.2
  have p1 := pm v v0 (by omega)
  have p2 := pm (v + 1) (by omega) (by omega)
  have p3 := ps v v0
  refine ⟨by omega, by omega, hm, x_addSegment (st := psum (zA σ 15 3) v.toNat) hm um (by omega) hr.1 al1 (a7 v v0 (by omega)).2.1 (fun q => ?_) (fun q => ?_) (by omega) (fun ω wm wk w1 w2 => ih _ _ ⟨wm, uk.tr wk, w1.1.trans u0, ⟨by omega, fun s s0 s1 => ?_⟩, ?_, w1.2.2.2.trans u13, by omega, by omega⟩ (by omega))⟩
  · rw [show v = 0 by omega]; rfl
  · rw [uc1]
    obtain ⟨-, -, x4, x5⟩ := ug.2 (v - 1) (by omega) (by omega)
    rw [x4, x5]
    have := ps (v - 1) (by omega)
    rw [show v - 1 + 1 = v by omega] at this
    omega
  · obtain ⟨f2, f3, f4, f5, f6⟩ := w2
    rw [f2, f3, f4, f5, uc1]
    by_cases e : s = v
    · rw [e, pu_eq, pu_eq, pu_eq, pu_eq]; exact ⟨rfl, rfl, rfl, rfl⟩
    · rw [pu_ne e, pu_ne e, pu_ne e, pu_ne e]; exact ug.2 s s0 (by omega)
  · exact ⟨by rw [w2.2.2.2.2]; exact uc.1, w1.2.2.1.trans uc.2.1, fun k k0 k1 => absurd (show k < 0 from k1) (by omega)⟩
