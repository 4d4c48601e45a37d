/-! C: the image -/
def IMc (σ : ZS) : Prop := (0 ≤ zI σ 17 0 ∧ zI σ 17 0 ≤ 1) ∧ (0 ≤ zI σ 17 1 ∧ zI σ 17 1 ≤ 1200) ∧ (∀ i : Int, 0 ≤ i → i < 1200 → 0 ≤ zA σ 17 2 i ∧ zA σ 17 2 i ≤ 255) ∧ (0 ≤ zI σ 17 3 ∧ zI σ 17 3 ≤ 600) ∧ (∀ i : Int, 0 ≤ i → i < 600 → 0 ≤ zA σ 17 4 i ∧ zA σ 17 4 i ≤ 4000000) ∧ (0 ≤ zI σ 17 5 ∧ zI σ 17 5 ≤ 200000) ∧ (0 ≤ zI σ 17 6 ∧ zI σ 17 6 ≤ 100000)
theorem IMc.k {σ τ : ZS} (h : IMc σ) (e : ob τ 17 = ob σ 17) : IMc τ := by
  have e1 := ob_I e; have e2 := ob_A e
  unfold IMc; simp only [e1, e2]; exact h
theorem c_publicPart {σ : ZS} {w : Int} {Q : Int → ZS → Prop} (h : M3 σ) (hw : 0 ≤ w ∧ w ≤ 4398046511103) (hQ : ∀ x : Int, (0 ≤ x ∧ x < 72) → Q x σ) : wpX3_publicPart w σ Q := by
  unfold wpX3_publicPart wpX3_part
  refine c_publicModule h (by decide) hw (fun m m0 m1 ⟨q, q0, q1, q2⟩ => ⟨by omega, fun _ => ⟨by omega, ?_⟩, fun q => absurd m0 q⟩) ⟨by decide, fun q => absurd q (by decide), fun _ => hQ 0 (by decide)⟩
  have mo := h m m0 (by omega)
  have h13 := mo.2.2.2.1
  refine c_publicNumber (by omega) mo hw (fun x x0 x1 _ _ => ⟨by omega, hQ _ ?_⟩) (fun no => absurd q2 (no q q0 q1))
  have := (mo.2.2.2.2.2.2.2 x x0 x1).2.1
  omega
theorem c_publicOffset {σ : ZS} {w : Int} {Q : Int → ZS → Prop} (h : M3 σ) (hl : LKc σ) (hw : 0 ≤ w ∧ w ≤ 4398046511103) (hQ : ∀ x : Int, (0 ≤ x ∧ x ≤ 50000) → Q x σ) : wpX3_publicOffset w σ Q := by
  unfold wpX3_publicOffset
  refine c_publicModule h (by decide) hw (fun m m0 m1 ⟨q, q0, q1, q2⟩ => ⟨by omega, fun _ => c_publicPart h hw (fun p hp => ⟨hp, by omega, ?_⟩), fun q => absurd m0 q⟩) ⟨by decide, fun q => absurd q (by decide), fun _ => hQ 0 (by decide)⟩
  have mo := h m m0 (by omega)
  have h13 := mo.2.2.2.1
  refine c_publicNumber (by omega) mo hw (fun x x0 x1 _ _ => ⟨by omega, hQ _ ?_⟩) (fun no => absurd q2 (no q q0 q1))
  have := (mo.2.2.2.2.2.2.2 x x0 x1).2.2
  have := hl.2.2.2.2.2 p hp.1 hp.2
  omega
theorem c_firstApart {σ : ZS} {Q : Int → ZS → Prop} (h : M3 σ) (hl : LKc σ) (hQ : ∀ x : Int, (-1 ≤ x ∧ x ≤ 2) → Q x σ) : wpX3_firstApart σ Q := by
  unfold wpX3_firstApart wpX3_firstApart_2
  refine lfp1_ind (fun v _ => (3 - v).toNat) (fun v τ => τ = σ ∧ (0 ≤ v ∧ v ≤ 3)) (fun K v τ hI ih => ?_) ⟨rfl, by decide⟩
  obtain ⟨e, hv⟩ := hI
  rw [e]
  unfold wpbX3_firstApart_2 wpX3_firstApart_16
  refine ⟨by omega, fun _ => hQ _ (by decide), fun q => ⟨by omega, ?_⟩⟩
  have hm := h v (by omega) (by omega)
  have h7 := hm.2.2.1
  refine lfp1_ind (fun u _ => (200 - u).toNat) (fun u τ => τ = σ ∧ (0 ≤ u ∧ u ≤ 200)) (fun K' u τ' hI' ih' => ?_) ⟨rfl, by decide⟩
  obtain ⟨e', hu⟩ := hI'
  rw [e']
  unfold wpbX3_firstApart_16 wpX3_firstApart_69 wpX3_part
  refine ⟨by omega, by omega, by omega, fun _ => ih _ _ ⟨rfl, by omega⟩ (by omega), fun q' => ?_⟩
  obtain ⟨p1, p2, p3, p4, p5⟩ := hm.2.2.2.2.2.2.1 u hu.1 (by omega)
  have on : K' (u + 1) σ := ih' _ _ ⟨rfl, by omega⟩ (by omega)
  refine ⟨by omega, by omega, fun _ => on, fun _ => ⟨by omega, c_publicPart h p5 (fun x hx => ⟨hx, ?_, ?_, fun _ => on, fun _ => hQ _ (by omega)⟩)⟩⟩
  · have := hl.2.2.2.2.1 (v * 24 + zA σ v 9 u) (by omega) (by omega)
    omega
  · have := hl.2.2.2.2.1 x hx.1 hx.2
    omega
theorem c_addWord {σ : ZS} {a b : Int} {Q : ZS → Prop} (h : IMc σ) (ha : 0 ≤ a ∧ a ≤ 4000000) (hb : -1000000 ≤ b ∧ b ≤ 1000000) (hQ : ∀ τ : ZS, IMc τ → kp [17] σ τ → Q τ) : wpX1_addWord a b σ Q := by
  obtain ⟨i0, i1, i2, i3, i4, i5, i6⟩ := h
  have h : IMc σ := ⟨i0, i1, i2, i3, i4, i5, i6⟩
  unfold wpX1_addWord wpX1_addWord_62
  refine ⟨by omega, fun q => absurd q (by omega), fun _ => ⟨by omega, fun _ => hQ σ h kp.rf, fun q => ?_⟩⟩
  have b1 := i2 a (by omega) (by omega)
  have b2 := i2 (a + 1) (by omega) (by omega)
  exact ⟨by omega, by omega, by omega, hQ _ ⟨i0, i1, rng_zu (rng_zu i2 (by omega)) (by omega), i3, i4, i5, i6⟩ ((kp.rf.ta (by decide)).ta (by decide))⟩
theorem c_addRelocation {σ : ZS} {a : Int} {Q : ZS → Prop} (h : IMc σ) (ha : 0 ≤ a ∧ a ≤ 4000000) (hQ : ∀ τ : ZS, IMc τ → kp [17] σ τ → Q τ) : wpX1_addRelocation a σ Q := by
  obtain ⟨i0, i1, i2, i3, i4, i5, i6⟩ := h
  have h : IMc σ := ⟨i0, i1, i2, i3, i4, i5, i6⟩
  unfold wpX1_addRelocation wpX1_addRelocation_30
  refine ⟨by omega, fun _ => hQ σ h kp.rf, fun q => ⟨by omega, hQ _ ⟨i0, i1, i2, ?_, rng_zu i4 ha, i5, i6⟩ ((kp.rf.ta (by decide)).ti (by decide))⟩⟩
  show 0 ≤ zI σ 17 3 + 1 ∧ zI σ 17 3 + 1 ≤ 600
  omega
theorem c_solve {σ : ZS} {m k : Int} {Q : ZS → Prop} (h : M3 σ) (hl : LKc σ) (hi : IMc σ) (hm : 0 ≤ m ∧ m ≤ 2) (hk : 0 ≤ k ∧ k < zI σ m 7) (hQ : ∀ τ : ZS, IMc τ → kp [17] σ τ → Q τ) : wpX3_solve m k σ Q := by
  have mo := h m hm.1 hm.2
  have h7 := mo.2.2.1
  obtain ⟨p1, p2, p3, p4, p5⟩ := mo.2.2.2.2.2.2.1 k hk.1 hk.2
  obtain ⟨l1, l2, l3, l4, l5, l6⟩ := hl
  have hl : LKc σ := ⟨l1, l2, l3, l4, l5, l6⟩
  have w1 := l5 (m * 24 + zA σ m 9 k) (by omega) (by omega)
  have w2 := l4 _ w1.1 (show zA σ 16 5 (m * 24 + zA σ m 9 k) < 72 by omega)
  have w3 := l6 (m * 24 + zA σ m 9 k) (by omega) (by omega)
  have f72 : ∀ s x : Int, (0 ≤ s ∧ s ≤ 1) → (0 ≤ x ∧ x < 72) → wpX3_solve_72 k m s (zA σ m 12 k) (m * 24 + zA σ m 9 k) x σ Q := by
    intro s x hs hx
    have x5 := l5 x hx.1 hx.2
    have x3 := l4 _ x5.1 (show zA σ 16 5 x < 72 by omega)
    have x6 := l6 x hx.1 hx.2
    unfold wpX3_solve_72 wpX3_placeOf wpX3_solve_199 wpX3_solve_202
    refine ⟨by omega, by omega, by omega, by omega, by omega, fun _ => ⟨fun _ => ⟨by omega, fun _ => ⟨hx, c_addWord hi (by omega) (by omega) hQ⟩, fun _ => c_publicOffset h hl p5 (fun y hy => c_addWord hi (by omega) (by omega) hQ)⟩, fun _ => c_publicOffset h hl p5 (fun y hy => ⟨by omega, c_addWord hi (by omega) (by omega) hQ⟩)⟩, fun _ => ⟨hx, by omega, by omega, c_addWord hi (by omega) (by omega) (fun τ ti tk => c_addRelocation ti (by omega) (fun υ ui uk => hQ υ ui (tk.tr uk)))⟩⟩
  have f23 : ∀ s : Int, (0 ≤ s ∧ s ≤ 1) → (s = 0 → 0 ≤ zA σ m 11 k) → wpX3_solve_23 m k m s σ Q := by
    intro s hs h0
    unfold wpX3_solve_23 wpX3_part
    exact ⟨hm, by omega, by omega, fun e => f72 s _ hs (by have := h0 e; omega), fun _ => c_publicPart h p5 (fun x hx => f72 s x hs hx)⟩
  unfold wpX3_solve
  exact ⟨by omega, by omega, by omega, fun q => f23 0 (by decide) (fun _ => q), fun _ => f23 1 (by decide) (fun q => absurd q (by decide))⟩
theorem zcpy_bd {f h : Int → Int} {sp dp n : Int} (hf : ∀ i : Int, 0 ≤ i → i < 400 → 0 ≤ f i ∧ f i ≤ 255) (hh : ∀ i : Int, 0 ≤ i → i < 1200 → 0 ≤ h i ∧ h i ≤ 255) (hs : 0 ≤ sp ∧ sp + n ≤ 400) : ∀ i : Int, 0 ≤ i → i < 1200 → 0 ≤ zcpy f h sp dp n i ∧ zcpy f h sp dp n i ≤ 255 := by
  intro i i0 i1
  unfold zcpy
  by_cases e : dp ≤ i ∧ i < dp + n
  · rw [if_pos e]; exact hf _ (by omega) (by omega)
  · rw [if_neg e]; exact hh i i0 i1
theorem c_lwrite {σ : ZS} {a : Int} {Q : ZS → Prop} (h : M3 σ) (hl : LKc σ) (hi : IMc σ) (ha : 0 ≤ a ∧ a ≤ 1200) (hp : PLC σ a) (hQ : ∀ τ : ZS, IMc τ → kp [17] σ τ → Q τ) : wpX3_write a σ Q := by
  obtain ⟨l1, l2, l3, l4, l5, l6⟩ := hl
  have hl : LKc σ := ⟨l1, l2, l3, l4, l5, l6⟩
  have m3 : ∀ τ : ZS, kp [17] σ τ → M3 τ := fun τ k => h.k k (by decide) (by decide) (by decide)
  have lk : ∀ τ : ZS, kp [17] σ τ → LKc τ := fun τ k => hl.k (k 16 (by decide))
  have f89 : ∀ τ : ZS, IMc τ → kp [17] σ τ → wpX3_write_89 0 τ Q := by
    intro τ ti tk
    unfold wpX3_write_89
    refine lfp1_ind (fun v _ => (3 - v).toNat) (fun v υ => IMc υ ∧ kp [17] σ υ ∧ (0 ≤ v ∧ v ≤ 3)) (fun K v υ hI ih => ?_) ⟨ti, tk, by decide⟩
    obtain ⟨ui, uk, hv⟩ := hI
    have um := m3 υ uk
    have ul := lk υ uk
    unfold wpbX3_write_89 wpX3_write_97
    refine ⟨by omega, fun _ => c_publicPart um (by decide) (fun x hx => ?_), fun q => ?_⟩
    · have x5 := ul.2.2.2.2.1 x hx.1 hx.2
      have x3 := ul.2.2.2.1 _ x5.1 (show zA υ 16 5 x < 72 by omega)
      have k5 : kp [17] σ (zsI υ 17 5 (zA υ 16 3 (zA υ 16 5 x) / 16)) := uk.ti (by decide)
      refine ⟨hx, by omega, by omega, c_publicOffset (m3 _ k5) (lk _ k5) (by decide) (fun y hy => hQ _ ?_ (k5.ti (by decide)))⟩
      obtain ⟨i0, i1, i2, i3, i4, i5, i6⟩ := ui
      refine ⟨i0, i1, i2, i3, i4, ?_, ?_⟩
      · show 0 ≤ zA υ 16 3 (zA υ 16 5 x) / 16 ∧ zA υ 16 3 (zA υ 16 5 x) / 16 ≤ 200000
        omega
      · show 0 ≤ y ∧ y ≤ 100000
        omega
    · have h7 := (um v hv.1 (by omega)).2.2.1
      refine lfp1_ind (fun u _ => (200 - u).toNat) (fun u ω => IMc ω ∧ kp [17] σ ω ∧ (0 ≤ u ∧ u ≤ 200)) (fun K' u ω hI' ih' => ?_) ⟨ui, uk, by decide⟩
      obtain ⟨wi, wk, hu⟩ := hI'
      have wm := m3 ω wk
      have w7 := (wm v hv.1 (by omega)).2.2.1
      unfold wpbX3_write_97
      exact ⟨by omega, by omega, by omega, fun _ => ih _ _ ⟨wi, wk, by omega⟩ (by omega), fun q' => c_solve wm (lk ω wk) wi (by omega) ⟨hu.1, by omega⟩ (fun ψ pi pk => ih' _ _ ⟨pi, wk.tr pk, by omega⟩ (by omega))⟩
  unfold wpX3_write wpX1_begin
  refine c_fill17_2 (fun k hk => ?_)
  have k0 : kp [17] σ (zsF (zsI (zsI (zsI σ 17 0 1) 17 1 a) 17 3 0) 17 2 k) := (((kp.rf.ti (by decide)).ti (by decide)).ti (by decide)).tf (by decide)
  have im0 : IMc (zsF (zsI (zsI (zsI σ 17 0 1) 17 1 a) 17 3 0) 17 2 k) := by
    obtain ⟨i0, i1, i2, i3, i4, i5, i6⟩ := hi
    refine ⟨?_, ha, fun i i0 i1 => ?_, ?_, i4, i5, i6⟩
    · show (0 : Int) ≤ 1 ∧ (1 : Int) ≤ 1
      decide
    · show 0 ≤ k i ∧ k i ≤ 255
      rw [hk i i0 i1]; decide
    · show (0 : Int) ≤ 0 ∧ (0 : Int) ≤ 600
      decide
  unfold wpX3_write_7
  refine lfp1_ind (fun v _ => (3 - v).toNat) (fun v υ => IMc υ ∧ kp [17] σ υ ∧ (0 ≤ v ∧ v ≤ 3)) (fun K v υ hI ih => ?_) ⟨im0, k0, by decide⟩
  obtain ⟨ui, uk, hv⟩ := hI
  unfold wpbX3_write_7 wpX3_write_15
  refine ⟨by omega, fun _ => f89 υ ui uk, fun q => ?_⟩
  have m1 := h v hv.1 (by omega)
  refine lfp1_ind (fun u _ => (24 - u).toNat) (fun u ω => IMc ω ∧ kp [17] σ ω ∧ (0 ≤ u ∧ u ≤ 24)) (fun K' u ω hI' ih' => ?_) ⟨ui, uk, by decide⟩
  obtain ⟨wi, wk, hu⟩ := hI'
  have wv := wk v (n_1 (by omega))
  have w16 := wk 16 (by decide)
  have s1 := m1.2.1
  unfold wpbX3_write_15 wpX3_part wpX3_placeOf
  dsimp only
  rw [ob_I wv 1, ob_A wv 5, ob_A wv 4, ob_A wv 6, ob_A w16 5, ob_A w16 3, ob_A w16 6]
  refine ⟨by omega, by omega, by omega, fun _ => ih _ _ ⟨wi, wk, by omega⟩ (by omega), fun q' => ?_⟩
  obtain ⟨g1, g2, g3, g4, g5⟩ := m1.2.2.2.2.1 u hu.1 (by omega)
  have pl := hp v u hv.1 (by omega) hu.1 (by omega)
  have y5 := l5 (v * 24 + u) (by omega) (by omega)
  have y3 := l4 _ y5.1 (show zA σ 16 5 (v * 24 + u) < 72 by omega)
  have y6 := l6 (v * 24 + u) (by omega) (by omega)
  refine ⟨by omega, by omega, by omega, ⟨g4, by omega, g3, g5, by omega⟩, ih' _ _ ⟨?_, wk.tf (by decide), by omega⟩ (by omega)⟩
  obtain ⟨i0, i1, i2, i3, i4, i5, i6⟩ := wi
  exact ⟨i0, i1, zcpy_bd m1.2.2.2.2.2.1 i2 ⟨g4, g5⟩, i3, i4, i5, i6⟩
