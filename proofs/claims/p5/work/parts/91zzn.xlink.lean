/-! X: the class links, its answer told -/
def APv (σ : ZS) (t : CbS) : Prop := ∀ m k m' q : Int, (0 ≤ m ∧ m ≤ 2) → (0 ≤ k ∧ k < zI σ m 7) → zA σ m 8 k = 2 → PPc σ (zA σ m 12 k) m' q → t.wh (24 * m + zA σ m 9 k) = t.wh (24 * m' + zA σ m' 15 q)
def LQ (σ : ZS) (t : CbS) (cd r : Int) : Prop := (cd = 1 ∧ ∀ m : Int, 0 ≤ m → m ≤ 2 → zI σ m 0 = 0) ∨ ((∃ m : Int, (0 ≤ m ∧ m ≤ 2) ∧ zI σ m 0 ≠ 0) ∧ ((cd = 2 ∧ ¬ NTc σ) ∨ (NTc σ ∧ ((cd = 3 ∧ ¬ NMc σ) ∨ (NMc σ ∧ ((cd = 3 ∧ ¬ PbC σ 230192366 3) ∨ (PbC σ 230192366 3 ∧ ((cd = 4 ∧ 1200 < LE t) ∨ (LE t ≤ 1200 ∧ ((cd = 5 ∧ ¬ APv σ t) ∨ (cd = 0 ∧ APv σ t ∧ r = LE t)))))))))))
theorem x_link {σ : ZS} {N : Int} {Q : Int → ZS → Prop} {X : String → ZS → Prop} (h : CI σ N) (hn : NMc σ → ∀ m k : Int, (0 ≤ m ∧ m ≤ 2) → (0 ≤ k ∧ k < zI σ m 7) → zA σ m 8 k = 2 → PbC σ (zA σ m 12 k) 3) (hu : NTc σ → ∀ w m q m' q' : Int, PPc σ w m q → PPc σ w m' q' → m * 24 + zA σ m 15 q = m' * 24 + zA σ m' 15 q') (h9 : ∀ m k : Int, (0 ≤ m ∧ m ≤ 2) → (0 ≤ k ∧ k < zI σ m 7) → zA σ m 9 k < zI σ m 1) (h15 : ∀ m q : Int, (0 ≤ m ∧ m ≤ 2) → (0 ≤ q ∧ q < zI σ m 13) → zA σ m 15 q < zI σ m 1) (hQ : ∀ (x : Int) (τ : ZS), CI τ N → KC σ τ → LQ σ (cAl (wC σ) (aC σ) (sC σ) (fun m => zI σ m 1) 3) 0 x → Q x τ) (hX : ∀ (s : String) (τ : ZS), ((s = xISE ∧ LQ σ (cAl (wC σ) (aC σ) (sC σ) (fun m => zI σ m 1) 3) 1 0) ∨ (s = xUOE ∧ LQ σ (cAl (wC σ) (aC σ) (sC σ) (fun m => zI σ m 1) 3) 2 0) ∨ (s = xNSE ∧ LQ σ (cAl (wC σ) (aC σ) (sC σ) (fun m => zI σ m 1) 3) 3 0) ∨ (s = xIOB ∧ LQ σ (cAl (wC σ) (aC σ) (sC σ) (fun m => zI σ m 1) 3) 4 0) ∨ (s = xARI ∧ LQ σ (cAl (wC σ) (aC σ) (sC σ) (fun m => zI σ m 1) 3) 5 0)) → CI τ N → KC σ τ → X s τ) : wpX10_link σ Q X := by
  obtain ⟨r0, r1, r2, r3, r4, r5, r6⟩ := h
  have h : CI σ N := ⟨r0, r1, r2, r3, r4, r5, r6⟩
  have fin : ∀ (τ : ZS) (v w : Int), kp [16, 17] σ τ → LKc τ → IMc τ → CI (zsI (zsI τ 10 2 v) 10 3 w) N ∧ KC σ (zsI (zsI τ 10 2 v) 10 3 w) := by
    intro τ v w tk tl ti
    have kk : ∀ g : Int, g ≠ 10 → ob (zsI (zsI τ 10 2 v) 10 3 w) g = ob τ g := fun g hg => (ob_i hg).trans (ob_i hg)
    have c1 : ∀ g : Int, g ∉ [(16 : Int), 17] → g ≠ 10 → ob (zsI (zsI τ 10 2 v) 10 3 w) g = ob σ g := fun g h1 h2 => (kk g h2).trans (tk g h1)
    have tX : TX τ := r0.k (tk 10 (by decide))
    exact ⟨⟨tX, r1.k (c1 11 (by decide) (by decide)), r2.k (c1 15 (by decide) (by decide)), fun m m0 m2 => (r3 m m0 m2).k (c1 m (m_no (by omega) (by omega)) (by omega)), tl.k (kk 16 (by decide)), ti.k (kk 17 (by decide)), r6.k (c1 18 (by decide) (by decide))⟩, ⟨tk.I (by decide) 1, tk.A (by decide) 0⟩, fun m m0 m2 => c1 m (m_no (by omega) (by omega)) (by omega)⟩
  have bad : ∀ (s : String) (v w : Int) (τ : ZS), ((s = xISE ∧ LQ σ (cAl (wC σ) (aC σ) (sC σ) (fun m => zI σ m 1) 3) 1 0) ∨ (s = xUOE ∧ LQ σ (cAl (wC σ) (aC σ) (sC σ) (fun m => zI σ m 1) 3) 2 0) ∨ (s = xNSE ∧ LQ σ (cAl (wC σ) (aC σ) (sC σ) (fun m => zI σ m 1) 3) 3 0) ∨ (s = xIOB ∧ LQ σ (cAl (wC σ) (aC σ) (sC σ) (fun m => zI σ m 1) 3) 4 0) ∨ (s = xARI ∧ LQ σ (cAl (wC σ) (aC σ) (sC σ) (fun m => zI σ m 1) 3) 5 0)) → kp [16, 17] σ τ → LKc τ → IMc τ → X s (zsI (zsI τ 10 2 v) 10 3 w) := fun s v w τ hs tk tl ti => hX s _ hs (fin τ v w tk tl ti).1 (fin τ v w tk tl ti).2
  unfold wpX10_link wpX10_tell
  refine x_hasModules r3 (fun hex => ⟨by decide, fun _ => ?_, fun q => absurd q (by decide)⟩) (fun no => ⟨by decide, fun q => absurd rfl q, fun _ => hX _ σ (Or.inl ⟨rfl, Or.inl ⟨rfl, no⟩⟩) h KC.rf⟩)
  refine x_firstPublicTwice r3 (fun nt => ⟨by decide, fun _ => ?_, fun q => absurd (by decide) q⟩) (fun y hy nn => ⟨by omega, fun q => absurd q (by omega), fun _ => bad _ _ _ σ (Or.inr (Or.inl ⟨rfl, Or.inr ⟨hex, Or.inl ⟨rfl, nn⟩⟩⟩)) kp.rf r4 r5⟩)
  refine x_firstUnsolved r3 (fun nm => ⟨by decide, fun _ => ?_, fun q => absurd (by decide) q⟩) (fun z hz nn => ⟨by omega, fun q => absurd q (by omega), fun _ => bad _ _ _ σ (Or.inr (Or.inr (Or.inl ⟨rfl, Or.inr ⟨hex, Or.inr ⟨nt, Or.inl ⟨rfl, nn⟩⟩⟩⟩))) kp.rf r4 r5⟩)
  refine x_hasMain r3 (fun hmn => ⟨by decide, fun _ => ?_, fun q => absurd q (by decide)⟩) (fun nn => ⟨by decide, fun q => absurd rfl q, fun _ => bad _ _ _ σ (Or.inr (Or.inr (Or.inl ⟨rfl, Or.inr ⟨hex, Or.inr ⟨nt, Or.inr ⟨nm, Or.inl ⟨rfl, nn⟩⟩⟩⟩⟩))) kp.rf r4 r5⟩)
  have up4 : ∀ cd r : Int, ((cd = 4 ∧ 1200 < LE (cAl (wC σ) (aC σ) (sC σ) (fun m => zI σ m 1) 3)) ∨ (LE (cAl (wC σ) (aC σ) (sC σ) (fun m => zI σ m 1) 3) ≤ 1200 ∧ ((cd = 5 ∧ ¬ APv σ (cAl (wC σ) (aC σ) (sC σ) (fun m => zI σ m 1) 3)) ∨ (cd = 0 ∧ APv σ (cAl (wC σ) (aC σ) (sC σ) (fun m => zI σ m 1) 3) ∧ r = LE (cAl (wC σ) (aC σ) (sC σ) (fun m => zI σ m 1) 3))))) → LQ σ (cAl (wC σ) (aC σ) (sC σ) (fun m => zI σ m 1) 3) cd r := fun cd r h => Or.inr ⟨hex, Or.inr ⟨nt, Or.inr ⟨nm, Or.inr ⟨hmn, h⟩⟩⟩⟩
  refine x_combine r3 r4 (fun e τ tl tk he hp ch _ ee => ?_)
  have eE : e = LE (cAl (wC σ) (aC σ) (sC σ) (fun m => zI σ m 1) 3) := ee
  have t5 : IMc τ := r5.k (tk 17 (by decide))
  have tM : M3 τ := r3.k tk (by decide) (by decide) (by decide)
  have em : ∀ m : Int, 0 ≤ m → m ≤ 2 → ob τ m = ob σ m := fun m m0 m2 => tk m (n_1 (by omega))
  refine ⟨by omega, fun le => ?_, fun gt => bad _ _ _ τ (Or.inr (Or.inr (Or.inr (Or.inl ⟨rfl, up4 4 0 (Or.inl ⟨rfl, by omega⟩)⟩)))) (tk.up (by decide)) tl t5⟩
  have ppe : ∀ w m q : Int, PPc τ w m q ↔ PPc σ w m q := by
    intro w m q
    unfold PPc
    constructor
    · rintro ⟨mb, x⟩
      have e := em m mb.1 (by omega)
      rw [ob_I e 0, ob_I e 13, ob_A e 14] at x
      exact ⟨mb, x⟩
    · rintro ⟨mb, x⟩
      have e := em m mb.1 (by omega)
      rw [ob_I e 0, ob_I e 13, ob_A e 14]
      exact ⟨mb, x⟩
  have pbe : ∀ w : Int, PbC σ w 3 → PbC τ w 3 := by
    rintro w ⟨m, q, mb, mt, qb, qw⟩
    have e := em m mb.1 (by omega)
    exact ⟨m, q, mb, by rw [ob_I e 0]; exact mt, by rw [ob_I e 13]; exact qb, by rw [ob_A e 14]; exact qw⟩
  have key : ∀ m k m' q : Int, (0 ≤ m ∧ m ≤ 2) → (0 ≤ k ∧ k < zI σ m 7) → PPc σ (zA σ m 12 k) m' q → zA τ 16 5 (m * 24 + zA σ m 9 k) = CbS.wh (cAl (wC σ) (aC σ) (sC σ) (fun m => zI σ m 1) 3) (24 * m + zA σ m 9 k) ∧ zA τ 16 5 (m' * 24 + zA σ m' 15 q) = CbS.wh (cAl (wC σ) (aC σ) (sC σ) (fun m => zI σ m 1) 3) (24 * m' + zA σ m' 15 q) := by
    intro m k m' q mb kb ⟨pb, pt, pk, _⟩
    have f9 := ((r3 m mb.1 mb.2).2.2.2.2.2.2.1 k kb.1 kb.2).2.1
    have f15 := ((r3 m' pb.1 (by omega)).2.2.2.2.2.2.2 q pk.1 pk.2).2.1
    exact ⟨(ch.2 m _ mb.1 mb.2 f9.1 (h9 m k mb kb) (Or.inl (by omega))).1, (ch.2 m' _ pb.1 (by omega) f15.1 (h15 m' q ⟨pb.1, by omega⟩ pk) (Or.inl (by omega))).1⟩
  have ape : APc τ ↔ APv σ (cAl (wC σ) (aC σ) (sC σ) (fun m => zI σ m 1) 3) := by
    constructor
    · intro hh m k m' q mb kb y pp
      have e := em m mb.1 mb.2
      have e' := em m' pp.1.1 (by have := pp.1.2; omega)
      have kk := key m k m' q mb kb pp
      have := hh m k m' q mb (by rw [ob_I e 7]; exact kb) (by rw [ob_A e 8]; exact y) ((ppe _ _ _).mpr (by rw [ob_A e 12]; exact pp))
      rw [ob_A e 9, ob_A e' 15] at this
      rw [← kk.1, ← kk.2]; exact this
    · intro hh m k m' q mb kb y pp
      have e := em m mb.1 mb.2
      have e' := em m' pp.1.1 (by have := pp.1.2; omega)
      rw [ob_I e 7] at kb
      rw [ob_A e 8] at y
      rw [ob_A e 12] at pp
      have pp' := (ppe _ _ _).mp pp
      have kk := key m k m' q mb kb pp'
      rw [ob_A e 9, ob_A e' 15, kk.1, kk.2]; exact hh m k m' q mb kb y pp'
  refine x_firstApart tM tl (fun m k mb kb y => ?_) (fun w m q m' q' p1 p2 => ?_) (fun ap => ⟨by decide, fun _ => ?_, fun q => absurd (by decide) q⟩) (fun f hf nap => ⟨by omega, fun q => absurd q (by omega), fun _ => bad _ _ _ τ (Or.inr (Or.inr (Or.inr (Or.inr ⟨rfl, up4 5 0 (Or.inr ⟨by omega, Or.inl ⟨rfl, fun q => nap (ape.mpr q)⟩⟩)⟩)))) (tk.up (by decide)) tl t5⟩)
  · have e := em m mb.1 mb.2
    rw [ob_I e 7] at kb
    rw [ob_A e 8] at y
    rw [ob_A e 12]; exact pbe _ (hn nm m k mb kb y)
  · have e := em m p1.1.1 (by have := p1.1.2; omega)
    have e' := em m' p2.1.1 (by have := p2.1.2; omega)
    rw [ob_A e 15, ob_A e' 15]; exact hu nt w m q m' q' ((ppe _ _ _).mp p1) ((ppe _ _ _).mp p2)
  refine c_lwrite tM tl t5 ⟨he.1, le⟩ hp (fun υ ui uk => ?_)
  have f1 := fin υ (-1) (-1) ((tk.up (by decide)).tr (uk.up (by decide))) (tl.k (uk 16 (by decide))) ui
  exact hQ e _ f1.1 f1.2 (up4 0 e (Or.inr ⟨by omega, Or.inr ⟨rfl, ape.mp ap, eE⟩⟩))
