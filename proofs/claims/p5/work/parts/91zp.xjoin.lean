/-! X: both sides joined -/
theorem x_mayDeclareC {i : Int} {σ : ZS} {R Q : Int → ZS → Prop} (g : wpX2_mayDeclare i σ R) (hp : 0 ≤ zA σ 13 3 i) (h1 : R 1 σ → Q 1 σ) (h0 : ∀ τ : ZS, R 0 τ → 0 ≤ zI τ 15 5 → Q 0 τ) : wpX2_mayDeclare i σ Q := by
  unfold wpX2_mayDeclare wpX2_mayDeclare_43 at g ⊢
  obtain ⟨g1, g2, g3, g4, g5⟩ := g
  exact ⟨g1, g2, g3, fun n => x_blame hp (g4 n) (fun τ r w _ _ _ => h0 τ r w), fun e => ⟨(g5 e).1, (g5 e).2.1, fun q => x_blame hp ((g5 e).2.2.1 q) (fun τ r w _ _ _ => h0 τ r w), fun q => h1 ((g5 e).2.2.2 q)⟩⟩
theorem x_openSegmentC {σ : ZS} {i c : Int} {Q : Int → ZS → Prop} (h : LY σ) (hi : 0 ≤ i ∧ i < zI σ 13 7) (ht : zA σ 13 0 i = 0) (hc : CU σ c i) (h5 : 0 ≤ zI σ 15 5) (hQ : ∀ (x : Int) (τ : ZS), LY τ → CU τ x (i + 1) → ob τ 13 = ob σ 13 → kp [11, 15] σ τ → zI σ 15 4 ≤ zI τ 15 4 → 0 ≤ zI τ 15 5 → Q x τ) : wpX2_openSegment i c σ Q := by
  have hit := h.it hi.1 hi.2
  obtain ⟨i1, i2, i3, i4, i5, i6, i7, i8, i9, i10⟩ := hit
  have hn : 0 ≤ zA σ 13 2 i := i6 (by omega) (by omega) (by omega)
  have hp := i7 hn
  have g := c_openSegment (Q := fun x τ => LY τ ∧ CU τ x (i + 1) ∧ ob τ 13 = ob σ 13 ∧ kp [11, 15] σ τ ∧ zI σ 15 4 ≤ zI τ 15 4) h hi ht hc (fun x τ a b c d e => ⟨a, b, c, d, e⟩)
  have f58 : wpX2_openSegment_58 i c (zA σ 13 2 i) (zA σ 13 1 i) σ (fun x τ => LY τ ∧ CU τ x (i + 1) ∧ ob τ 13 = ob σ 13 ∧ kp [11, 15] σ τ ∧ zI σ 15 4 ≤ zI τ 15 4) → wpX2_openSegment_58 i c (zA σ 13 2 i) (zA σ 13 1 i) σ Q := by
    intro k
    unfold wpX2_openSegment_58 wpX2_openSegment_75 wpX5_make at k ⊢
    refine x_mayDeclareC k hp (fun r => ?_) (fun τ r w => ?_)
    · have n1 : ¬ (1 : Int) = 0 := by decide
      refine ⟨by decide, fun q => absurd q n1, fun _ => ⟨(r.2.2 n1).1, fun lt => ?_, fun ge => ?_⟩⟩
      · obtain ⟨r1, r2, r3, r4, r5, r6, r7, r8⟩ := (r.2.2 n1).2.1 lt
        exact ⟨r1, r2, r3, hQ _ _ r4 r5 r6 r7 r8 h5⟩
      · obtain ⟨r1, r2, r3, r4, r5⟩ := (r.2.2 n1).2.2 ge
        exact hQ _ _ r1 r2 r3 r4 r5 h5
    · obtain ⟨r1, r2, r3, r4, r5⟩ := r.2.1 rfl
      exact ⟨by decide, fun _ => hQ c τ r1 r2 r3 r4 r5 w, fun q => absurd rfl q⟩
  unfold wpX2_openSegment at g ⊢
  obtain ⟨g1, g2, g3, g4, g5⟩ := g
  refine ⟨g1, g2, g3, fun n => f58 (g4 n), fun e => ⟨(g5 e).1, (g5 e).2.1, fun n => f58 ((g5 e).2.2.1 n), fun y => ?_⟩⟩
  obtain ⟨r1, r2, r3, r4, r5⟩ := (g5 e).2.2.2 y
  exact hQ _ σ r1 r2 r3 r4 r5 h5
/-- too many names: one is wrong -/
theorem x_firstWrongC {σ : ZS} {Q : Int → ZS → Prop} (h1 : NR σ) (h2 : NS σ) (h3 : NF σ) (h4 : DJ σ) (h7 : LRg σ) (h25 : 25 ≤ zI σ 11 5) (hQ : ∀ (x : Int) (τ : ZS), LY τ → DS τ (zI τ 13 7) → x = zI τ 15 5 → 0 ≤ x → kp [11, 13, 15] σ τ → Q x τ) : wpX2_firstWrong σ Q := by
  have h6 := h2.2.2 h25
  have h6' := h2.2.1
  unfold wpX2_firstWrong wpX2_declareAll wpX2_declareAll_9
  refine lfp2_ind (fun _ v _ => (248 - v).toNat) (fun c v τ => LY τ ∧ CU τ c v ∧ DS τ v ∧ kp [11, 13, 15] σ τ ∧ (0 ≤ v ∧ v ≤ zI τ 13 7) ∧ 0 ≤ zI τ 15 5) (fun K c v τ hI ih => ?_) ⟨⟨h1, h2, h4.k rfl ((ob_i (by decide)).trans (ob_i (by decide))), (show (0 : Int) ≤ 0 ∧ (0 : Int) ≤ 60 by decide), (show -1 ≤ zI σ 11 6 ∧ zI σ 11 6 ≤ 480 from h6'), fun _ => h6, h7, fun n n0 n1 => ?_, fun s s0 s1 => ?_⟩, ⟨(show (-1 : Int) ≤ -1 ∧ (-1 : Int) < 0 by decide), fun _ => Or.inr ⟨rfl, fun j j0 j1 => absurd j0 (by omega)⟩⟩, fun j j0 j1 => absurd j0 (by omega), (kp.i (by decide)).ti (by decide), ⟨by decide, h4.1.1.1⟩, h6⟩
  · obtain ⟨ly, cu, ds, k, ⟨v0, v1⟩, w5⟩ := hI
    have hz := ly.sz
    have next : ∀ (x : Int) (υ : ZS), v < zI τ 13 7 → LY υ → CU υ x (v + 1) → ob υ 13 = ob τ 13 → kp [11, 15] τ υ → zI τ 15 4 ≤ zI υ 15 4 → 0 ≤ zI υ 15 5 → wpX2_declareAll_90 K x v υ (fun σ12 => wpX2_firstWrong_17 0 σ12 Q) := by
      intro x υ lt uy uc e13 uk us u5
      unfold wpX2_declareAll_90
      refine ⟨by omega, ih _ _ _ ⟨uy.s5, uc, fun j j0 j1 => ?_, (k.tr (uk.up (by decide))).ta (by decide), ⟨by omega, ?_⟩, u5⟩ (by omega)⟩
      · show -1 ≤ zu (zA υ 13 5) v x j ∧ zu (zA υ 13 5) v x j < zI υ 15 4
        by_cases e : j = v
        · rw [e, pu_eq]; exact uc.1
        · rw [pu_ne e, ob_A e13 5]
          have := ds j j0 (by omega)
          omega
      · show v + 1 ≤ zI υ 13 7
        rw [ob_I e13 7]; omega
    unfold wpbX2_declareAll_9
    refine ⟨by omega, by omega, fun q => ?_, fun lt => ?_⟩
    · have ds' : DS τ (zI τ 13 7) := by rw [show zI τ 13 7 = v by omega]; exact ds
      unfold wpX2_firstWrong_17
      refine lfp1_ind (fun v _ => (248 - v).toNat) (fun v' τ' => LY τ' ∧ DS τ' (zI τ' 13 7) ∧ kp [11, 13, 15] σ τ' ∧ (0 ≤ v' ∧ v' ≤ zI τ' 13 7) ∧ 0 ≤ zI τ' 15 5) (fun K' v' τ' hI' ih' => ?_) ⟨ly, ds', k, ⟨by decide, ly.sz.1⟩, w5⟩
      obtain ⟨ly', ds'', k', ⟨v0', v1'⟩, w5'⟩ := hI'
      have hz' := ly'.sz
      unfold wpbX2_firstWrong_17 wpX2_firstWrong_49
      refine ⟨by omega, by omega, fun q => hQ _ τ' ly' ds'' rfl w5' k', fun lt => c_isUseRight ly' ds'' ⟨v0', by omega⟩ (fun u => ⟨by decide, fun _ => ih' _ _ ⟨ly', ds'', k', by omega, w5'⟩ (by omega), fun q => absurd q (by decide)⟩) (fun hn => ⟨by decide, fun q => absurd rfl q, fun _ => ⟨by omega, ?_⟩⟩)⟩
      obtain ⟨i1, i2, i3, i4, i5, i6, i7, i8, i9, i10⟩ := ly'.it v0' (show v' < zI τ' 13 7 by omega)
      have hp := i7 hn
      exact c_blame ly' (by omega) (fun w => ih' _ _ ⟨ly', ds'', k', by omega, w5'⟩ (by omega)) (fun w w0 w1 => ih' _ _ ⟨ly'.bl w0 w1, ds'', k'.ti (by decide), (show 0 ≤ v' + 1 ∧ v' + 1 ≤ zI τ' 13 7 by omega), w0⟩ (by omega))
    have it := ly.it v0 (by omega)
    obtain ⟨i1, i2, i3, i4, i5, i6, i7, i8, i9, i10⟩ := it
    have cu0 := cu
    obtain ⟨c1, c2⟩ := cu
    have keep : zA τ 13 0 v ≠ 0 → CU τ c (v + 1) := fun ne => ⟨c1, fun w => by omega⟩
    have keepU : ∀ υ : ZS, zI υ 15 4 = zI τ 15 4 → 0 ≤ zI υ 15 5 → CU υ c (v + 1) := fun υ e w => ⟨by rw [e]; exact c1, fun w' => by omega⟩
    have ge5 : ∀ υ : ZS, LY υ → (zI υ 15 5 < 0 → zI τ 15 5 < 0) → 0 ≤ zI υ 15 5 := fun υ _ hw => by
      by_cases q : zI υ 15 5 < 0
      · have := hw q; omega
      · omega
    have same : zA τ 13 0 v ≠ 0 → wpX2_declareAll_90 K c v τ (fun σ12 => wpX2_firstWrong_17 0 σ12 Q) := fun ne => next c τ (by omega) ly (keep ne) rfl kp.rf (Int.le_refl _) w5
    refine ⟨by omega, by omega, fun e0 => x_openSegmentC ly ⟨v0, by omega⟩ e0 cu0 w5 (fun x υ uy uc e13 uk us u5 => next x υ (by omega) uy uc e13 uk us u5), fun n0 => ⟨fun e1 => ?_, fun _ => ⟨fun _ => same n0, fun _ => ⟨fun e3 => ?_, fun _ => same n0⟩⟩⟩⟩
    · exact c_declare ly ⟨v0, by omega⟩ (i6 (by omega) (by omega) (by omega)) (Or.inl ⟨rfl, c1, fun w => by omega⟩) (fun υ uy e13 uk us uw => next c υ (by omega) uy (keepU υ us (ge5 υ uy uw)) e13 uk (by omega) (ge5 υ uy uw))
    · exact c_declare ly ⟨v0, by omega⟩ (i6 (by omega) (by omega) (by omega)) (Or.inr ⟨rfl, rfl⟩) (fun υ uy e13 uk us uw => next c υ (by omega) uy (keepU υ us (ge5 υ uy uw)) e13 uk (by omega) (ge5 υ uy uw))
  · obtain ⟨z1, z2⟩ := h3 n n0 n1
    have z1' : zA (zsI (zsI σ 15 5 (zI σ 11 6)) 15 4 0) 11 1 n = 0 := z1
    rw [z1']
    exact ⟨fun _ => z2, fun q => absurd q (by decide), fun q => absurd q (by decide), fun q => absurd q (by decide)⟩
  · have s1' : s < 0 := s1
    omega
/-- the reference's parse, seen from the class's -/
theorem p_parse {h : Int → Int} {L x : Int} {E M : Int → Int} {σ υ ρ : ZS} (hC : CT h L E M σ) (hE : PE h L E M (zsI (zsI (zsI σ 14 4 0) 14 5 0) 13 7 0) υ x) (hA : PA0 ρ) (hL : zI ρ 0 2 = L) (ht : ∀ j : Int, 0 ≤ j → j < L → zA ρ 0 1 j = h j) : ∀ Qp : Int → ZS → Prop, (∀ (r : Int) (τ : ZS), GG τ → fr PF PA (zsI ρ 0 0 0) τ → (r = 0 ∨ r = 1) → ((r = 0 ∧ ¬ x < 0) ∨ (r = 1 ∧ x < 0 ∧ RB υ τ (zI υ 11 5) [])) → Qp r τ) → wpX11_parse (zsI ρ 0 0 0) Qp := by
  intro Qp hq
  unfold wpX11_parse
  obtain ⟨ρ0, h0⟩ : ∃ ρ0, ρ0 = zsI (zsI (zsI (zsI (zsI (zsI (zsI (zsI (zsI ρ 0 0 0) 0 5 0) 0 17 0) 0 18 (-1)) 0 23 0) 0 31 0) 0 32 (-1)) 0 33 0) 0 34 0 := ⟨_, rfl⟩
  have hf0 : fr PF PA (zsI ρ 0 0 0) ρ0 := by rw [h0]; exact (((((((fr.rf.ti (by decide)).ti (by decide)).ti (by decide)).ti (by decide)).ti (by decide)).ti (by decide)).ti (by decide)).ti (by decide)
  have hA1 : PA0 ρ0 := by rw [h0]; exact hA
  have i5 : zI ρ0 0 5 = 0 := by rw [h0]; rfl
  have i17 : zI ρ0 0 17 = 0 := by rw [h0]; rfl
  have i18 : zI ρ0 0 18 = -1 := by rw [h0]; rfl
  have i23 : zI ρ0 0 23 = 0 := by rw [h0]; rfl
  have i31 : zI ρ0 0 31 = 0 := by rw [h0]; rfl
  have i32 : zI ρ0 0 32 = -1 := by rw [h0]; rfl
  have i33 : zI ρ0 0 33 = 0 := by rw [h0]; rfl
  have i34 : zI ρ0 0 34 = 0 := by rw [h0]; rfl
  have i2 : zI ρ0 0 2 = L := by rw [h0]; exact hL
  have a1 : zA ρ0 0 1 = zA ρ 0 1 := by rw [h0]; rfl
  rw [← h0]
  clear h0
  refine x_next0 hA1 i5 i17 i18 i23 i31 i32 i33 i34 (fun τ g f hI nx => ?_)
  obtain ⟨σ0, hσ0⟩ : ∃ τ, τ = zsI (zsI (zsI σ 14 4 0) 14 5 0) 13 7 0 := ⟨_, rfl⟩
  rw [← hσ0] at hE
  have hC0 : CT h L E M σ0 := by
    rw [hσ0]
    exact hC.k (((ob_i (by decide)).trans (ob_i (by decide))).trans (ob_i (by decide))) (((ob_i (by decide)).trans (ob_i (by decide))).trans (ob_i (by decide)))
  have at0 : zI σ0 14 4 = 0 := by rw [hσ0]; rfl
  have op0 : zI σ0 14 5 = 0 := by rw [hσ0]; rfl
  have y0 : yS σ0 = yD0 := by rw [hσ0]; rfl
  clear hσ0
  have t := hC0.1.2.1
  have n1 := hC0.1.2.2.1
  have sy : SY h L E σ0 0 τ := SY_nxt t (by decide) (by omega) i2 (fun j j0 j1 => by rw [a1]; exact ht j j0 j1) hA1.1.2.2 hC0.2 (by rw [i5, t.1]) nx
  have rb : RB σ0 τ (M 0) [] := by
    refine ⟨g, ⟨by rw [f.1 17 (by decide), i17, t.2.1], fun n n0 n1 => by rw [t.2.1] at n1; omega⟩, by rw [f.1 33 (by decide), i33, op0], fun _ => ?_⟩
    rw [y0, t.2.1]
    refine ⟨⟨fun n n0 n1 => by omega, fun n _ => rfl, by rw [f.1 34 (by decide), i34]; rfl, fun s s0 s1 => by have s1' : s < 0 := s1; omega, by rw [f.1 32 (by decide), i32]; rfl, ?_⟩, ⟨by rw [f.1 31 (by decide), i31]; rfl, fun p p0 p1 => by have p1' : p < 0 := p1; omega⟩, ⟨by rw [f.1 23 (by decide), i23]; rfl, fun i i0 i1 => by have i1' : i < 0 := i1; omega⟩⟩
    rw [f.1 18 (by decide), i18]
    exact ⟨fun _ q => q, fun _ => by decide⟩
  have hfτ : fr PF PA (zsI ρ 0 0 0) τ := hf0.tr (f.up (by decide) (by decide))
  refine hE τ Qp ⟨by rw [at0]; exact sy, by rw [at0]; exact rb, hI⟩ (fun xn ρ' b' pr' => hq 1 ρ' b'.1 (hfτ.tr pr'.1) (Or.inr rfl) (Or.inr ⟨rfl, xn, b'⟩)) (fun xn ρ' g' pr' => hq 0 ρ' g' (hfτ.tr pr'.1) (Or.inl rfl) (Or.inl ⟨rfl, xn⟩))
/-- whether a name is wrong: the reference answers as the walk -/
theorem JW_ok {υ τ : ZS} (hB : RB υ τ (zI υ 11 5) []) (h24 : zI υ 11 5 ≤ 24) : JW τ ↔ yOK (yS υ) := by
  obtain ⟨g, ⟨b1, b2⟩, b3, b4⟩ := hB
  obtain ⟨c1, c2, c3⟩ := b4 h24
  have g5 := g.2.2.2.2.2.2.2.2.2.1.1
  have g2 := g.2.2.2.2.2.2.1
  have l8 := g.2.1.2.2.2.2.2.2.2.1
  have l2 := g.2.1.2.1
  have l1 := g.2.1.1
  exact Ju_ok c1 c3 (fun u u0 u1 => ⟨(g2 u u0 (by omega)).2.1.1, by have := g5 u u0 u1; omega⟩)
theorem JW_no {υ τ : ZS} (hB : RB υ τ (zI υ 11 5) []) (h25 : 25 ≤ zI υ 11 5) : ¬ JW τ := by
  obtain ⟨g, ⟨b1, b2⟩, b3, b4⟩ := hB
  intro q
  have := g.2.2.2.2.1.1 q.1
  omega
/-- every jump has its place, where all names are right -/
theorem HJx_of {a b c : Int → Int} {N : Nat} (ht : ∀ j : Nat, j < N → 0 ≤ a j ∧ a j ≤ 12) (hok : yOK (yF a b c N)) (h5 : ∀ j : Nat, j < N → a j = 5 → 0 ≤ b j) (hg : ∀ j : Int, 0 ≤ j → j < N → (yF a b c N).so (c j) = 2 → (yF a b c N).sg (c j) = gI a b c j → 0 ≤ gI a b c j) : HJx a b c (gI a b c) (yF a b c N).so N := by
  have ok := (yF_ok (a := a) (b := b) (c := c) (yF a b c N) N ht).2.mp hok.2
  have so := yF_so N ht hok.1
  have here : ∀ j : Int, 0 ≤ j → j < N → (yF a b c N).so (c j) = 2 → (yF a b c N).sg (c j) = gI a b c j → 0 ≤ lI a c (c j) N ∧ gI a b c (lI a c (c j) N) = gI a b c j ∧ 0 ≤ gI a b c j := by
    intro j j0 j1 s2 sg
    have w := so (c j)
    refine ⟨w.1.mpr s2, ?_, hg j j0 j1 s2 sg⟩
    rw [← w.2 s2]; exact sg
  have cur : ∀ j : Int, 0 ≤ j → j < N → uOK (yF a b c N) (iK (a j)) (c j) (gI a b c j) := by
    intro j j0 j1
    have := ok j.toNat (by omega)
    rw [show ((j.toNat : Nat) : Int) = j by omega] at this
    unfold gI
    rw [show (j + 1).toNat = j.toNat + 1 by omega]
    exact this
  refine ⟨fun j j0 j1 t => ?_, fun j j0 j1 t => ?_, h5⟩
  · have u := (cur j j0 j1).2.2.2.1 (by rw [t]; rfl)
    rcases u with ⟨s2, sg⟩ | s3
    · exact Or.inr (here j j0 j1 s2 sg)
    · exact Or.inl s3
  · have u := (cur j j0 j1).2.2.1 (by rw [t]; rfl)
    exact here j j0 j1 u.1 u.2
