/-! P: a module is written -/
abbrev WA : List Nat := [43, 44, 45, 46, 47, 48, 49, 50, 51, 52, 53, 54, 55, 56, 57, 58, 59]
def OU (m : Int) (σ τ : ZS) : Prop := (∀ j : Int, j ≠ m → zA τ 0 43 j = zA σ 0 43 j ∧ zA τ 0 44 j = zA σ 0 44 j ∧ zA τ 0 50 j = zA σ 0 50 j ∧ zA τ 0 56 j = zA σ 0 56 j) ∧ (∀ i : Int, i < 24 * m ∨ 24 * m + 24 ≤ i → zA τ 0 46 i = zA σ 0 46 i ∧ zA τ 0 47 i = zA σ 0 47 i ∧ zA τ 0 48 i = zA σ 0 48 i) ∧ (∀ f : Int, f < 200 * m ∨ 200 * m + 200 ≤ f → zA τ 0 51 f = zA σ 0 51 f ∧ zA τ 0 52 f = zA σ 0 52 f ∧ zA τ 0 53 f = zA σ 0 53 f ∧ zA τ 0 54 f = zA σ 0 54 f) ∧ (∀ q : Int, q < 80 * m ∨ 80 * m + 80 ≤ q → zA τ 0 58 q = zA σ 0 58 q ∧ zA τ 0 59 q = zA σ 0 59 q)
theorem OU.rf {m : Int} {σ : ZS} : OU m σ σ := ⟨fun _ _ => ⟨rfl, rfl, rfl, rfl⟩, fun _ _ => ⟨rfl, rfl, rfl⟩, fun _ _ => ⟨rfl, rfl, rfl, rfl⟩, fun _ _ => ⟨rfl, rfl⟩⟩
theorem OU.tr {m : Int} {σ τ υ : ZS} (h : OU m σ τ) (k : OU m τ υ) : OU m σ υ := by
  obtain ⟨a1, a2, a3, a4⟩ := h
  obtain ⟨b1, b2, b3, b4⟩ := k
  refine ⟨fun j hj => ?_, fun j hj => ?_, fun j hj => ?_, fun j hj => ?_⟩
  · obtain ⟨x1, x2, x3, x4⟩ := a1 j hj
    obtain ⟨y1, y2, y3, y4⟩ := b1 j hj
    exact ⟨y1.trans x1, y2.trans x2, y3.trans x3, y4.trans x4⟩
  · obtain ⟨x1, x2, x3⟩ := a2 j hj
    obtain ⟨y1, y2, y3⟩ := b2 j hj
    exact ⟨y1.trans x1, y2.trans x2, y3.trans x3⟩
  · obtain ⟨x1, x2, x3, x4⟩ := a3 j hj
    obtain ⟨y1, y2, y3, y4⟩ := b3 j hj
    exact ⟨y1.trans x1, y2.trans x2, y3.trans x3, y4.trans x4⟩
  · obtain ⟨x1, x2⟩ := a4 j hj
    obtain ⟨y1, y2⟩ := b4 j hj
    exact ⟨y1.trans x1, y2.trans x2⟩
/-- a module -/
def MI (σ : ZS) (m : Int) : Prop := ((0 ≤ zA σ 0 44 m ∧ zA σ 0 44 m ≤ 24) ∧ (0 ≤ zA σ 0 50 m ∧ zA σ 0 50 m ≤ 200) ∧ (0 ≤ zA σ 0 56 m ∧ zA σ 0 56 m ≤ 80)) ∧ (∀ s : Int, 0 ≤ s → s < zA σ 0 44 m → 0 ≤ zA σ 0 47 (24 * m + s) ∧ 0 ≤ zA σ 0 48 (24 * m + s) ∧ zA σ 0 47 (24 * m + s) + zA σ 0 48 (24 * m + s) ≤ 400 ∧ 1 ≤ zA σ 0 46 (24 * m + s) ∧ zA σ 0 46 (24 * m + s) ≤ 16) ∧ (∀ k : Int, 0 ≤ k → k < zA σ 0 50 m → (0 ≤ zA σ 0 51 (200 * m + k) ∧ zA σ 0 51 (200 * m + k) ≤ 2) ∧ (0 ≤ zA σ 0 52 (200 * m + k) ∧ zA σ 0 52 (200 * m + k) < zA σ 0 44 m) ∧ 0 ≤ zA σ 0 53 (200 * m + k) ∧ zA σ 0 53 (200 * m + k) + 2 ≤ zA σ 0 48 (24 * m + zA σ 0 52 (200 * m + k)) ∧ (-1 ≤ zA σ 0 54 (200 * m + k) ∧ zA σ 0 54 (200 * m + k) < zA σ 0 44 m)) ∧ (∀ k : Int, 0 ≤ k → k < zA σ 0 56 m → (0 ≤ zA σ 0 58 (80 * m + k) ∧ zA σ 0 58 (80 * m + k) < zA σ 0 44 m) ∧ (0 ≤ zA σ 0 59 (80 * m + k) ∧ zA σ 0 59 (80 * m + k) ≤ 62000))
theorem MI.ou {σ τ : ZS} {m n : Int} (h : MI σ n) (k : OU m σ τ) (hm : 0 ≤ m ∧ m ≤ 2) (hn : 0 ≤ n ∧ n ≤ 2) (hne : n ≠ m) : MI τ n := by
  obtain ⟨⟨h1, h2, h3⟩, h4, h5, h6⟩ := h
  obtain ⟨a1, a2, a3, a4⟩ := k
  obtain ⟨-, e44, e50, e56⟩ := a1 n hne
  refine ⟨⟨by rw [e44]; exact h1, by rw [e50]; exact h2, by rw [e56]; exact h3⟩, fun s s0 s1 => ?_, fun j j0 j1 => ?_, fun j j0 j1 => ?_⟩
  · rw [e44] at s1
    obtain ⟨x1, x2, x3⟩ := a2 (24 * n + s) (by omega)
    rw [x1, x2, x3]; exact h4 s s0 s1
  · rw [e50] at j1
    obtain ⟨x1, x2, x3, x4⟩ := a3 (200 * n + j) (by omega)
    have hj := h5 j j0 j1
    obtain ⟨-, -, y3⟩ := a2 (24 * n + zA σ 0 52 (200 * n + j)) (by omega)
    rw [x1, x2, x3, x4, e44, y3]; exact hj
  · rw [e56] at j1
    obtain ⟨x1, x2⟩ := a4 (80 * n + j) (by omega)
    rw [x1, x2, e44]; exact h6 j j0 j1
def GM (σ : ZS) : Prop := (∀ i : Int, 0 ≤ i → i < 72 → 0 ≤ zA σ 0 45 i ∧ zA σ 0 45 i ≤ 72057594037927936) ∧ (∀ i : Int, 0 ≤ i → i < 600 → 0 ≤ zA σ 0 55 i ∧ zA σ 0 55 i ≤ 72057594037927936) ∧ (∀ i : Int, 0 ≤ i → i < 240 → 0 ≤ zA σ 0 57 i ∧ zA σ 0 57 i ≤ 72057594037927936) ∧ (∀ i : Int, 0 ≤ i → i < 1200 → 0 ≤ zA σ 0 49 i ∧ zA σ 0 49 i ≤ 255) ∧ (∀ i : Int, 0 ≤ i → i < 3 → 0 ≤ zA σ 0 43 i ∧ zA σ 0 43 i ≤ 1)
/-- what is known when a module is written -/
def WC (β : ZS) : Prop := G1 β ∧ G2 β ∧ G3 β ∧ OFs β ∧ Lyp β ∧ Sg β ∧ zI β 0 34 ≤ 24 ∧ (∀ s : Int, 0 ≤ s → s < zI β 0 34 → (0 ≤ zA β 0 35 s ∧ zA β 0 35 s < 240) ∧ 1 ≤ zA β 0 15 (zA β 0 35 s)) ∧ psum (zA β 0 36) (zI β 0 34).toNat ≤ 400 ∧ (∀ j : Int, 0 ≤ j → j < zI β 0 31 → zA β 0 24 j = 4 → zA β 0 13 (zA β 0 25 j) = 3 → zA β 0 30 j = 1) ∧ (∀ p : Int, 0 ≤ p → p < zI β 0 31 → zA β 0 24 p = 2 ∨ zA β 0 24 p = 3 → -1 ≤ zA β 0 14 (zA β 0 25 p) ∧ (zA β 0 13 (zA β 0 25 p) ≠ 3 → zA β 0 14 (zA β 0 25 p) < zI β 0 34)) ∧ (∀ u : Int, 0 ≤ u → u < zI β 0 23 → zA β 0 19 u = 0 → 0 ≤ zA β 0 14 (zA β 0 20 u) ∧ zA β 0 14 (zA β 0 20 u) < zI β 0 34) ∧ (0 ≤ zI β 0 23 ∧ zI β 0 23 ≤ 480) ∧ 7 * cntP (zA β 0 19) (zI β 0 23).toNat ≤ 480
def FX (β : ZS) (m : Int) (τ : ZS) : Prop := ∀ k : Int, 0 ≤ k → k < zA τ 0 50 m → (0 ≤ zA τ 0 51 (200 * m + k) ∧ zA τ 0 51 (200 * m + k) ≤ 2) ∧ (0 ≤ zA τ 0 52 (200 * m + k) ∧ zA τ 0 52 (200 * m + k) < zI β 0 34) ∧ 0 ≤ zA τ 0 53 (200 * m + k) ∧ zA τ 0 53 (200 * m + k) + 2 ≤ zA β 0 36 (zA τ 0 52 (200 * m + k)) ∧ (-1 ≤ zA τ 0 54 (200 * m + k) ∧ zA τ 0 54 (200 * m + k) < zI β 0 34)
def MT (β : ZS) (m : Int) (τ : ZS) : Prop := ∀ s : Int, 0 ≤ s → s < zI β 0 34 → zA τ 0 47 (24 * m + s) = psum (zA β 0 36) s.toNat ∧ zA τ 0 48 (24 * m + s) = zA β 0 36 s
abbrev UA : List Nat := [49, 50, 51, 52, 53, 54, 55]
/-- while pieces are put -/
def PU (β : ZS) (m : Int) (τ υ : ZS) (c : Int) : Prop := fr [] UA τ υ ∧ OU m τ υ ∧ GM υ ∧ FX β m υ ∧ zA υ 0 50 m = c
theorem s_put {β τ : ZS} {m p : Int} {Q : ZS → Prop} (hW : WC β) (hm : 0 ≤ m ∧ m ≤ 2) (hp : 0 ≤ p ∧ p < zI β 0 31) (hf : fr [] WA β τ) (hT : MT β m τ) (hM : GM τ) (hX : FX β m τ) (hc : 0 ≤ zA τ 0 50 m ∧ 2 * zA τ 0 50 m ≤ psum (szp β) p.toNat) (hQ : ∀ υ : ZS, fr [] UA τ υ → OU m τ υ → GM υ → FX β m υ → (0 ≤ zA υ 0 50 m ∧ 2 * zA υ 0 50 m ≤ psum (szp β) (p + 1).toNat) → Q υ) : wpX11_put m p τ Q := by
  obtain ⟨w1, w2, w3, wO, wL, wS, w24, wal, wsum, wne, wab, wpb, wus, wcn⟩ := hW
  obtain ⟨s31, s34, sg⟩ := wS
  obtain ⟨q1, q2, q3, q4, q5, q6, q7, q8⟩ := w3 p hp.1 (by omega)
  have hs := sg p hp.1 hp.2
  have hat := wL.2.1 p hp.1 hp.2
  have hzb := szp_bd w3 hp.1 (by omega)
  have hstep : psum (szp β) (p + 1).toNat = psum (szp β) p.toNat + szp β p := by
    rw [show (p + 1).toNat = p.toNat + 1 by omega]
    show psum (szp β) p.toNat + szp β ((p.toNat : Nat) : Int) = _
    rw [show ((p.toNat : Nat) : Int) = p by omega]
  have hnn : ∀ j : Int, 0 ≤ j → j < ((zI β 0 34).toNat : Int) → 0 ≤ zA β 0 36 j := fun j a b => (wL.1 j a (by omega)).1
  have hmono : psum (szp β) (p + 1).toNat ≤ psum (szp β) (zI β 0 31).toNat := psum_mono _ (by omega) (fun j a b => (szp_bd w3 a (by omega)).1)
  have hbeg : 0 ≤ psum (zA β 0 36) (zA β 0 28 p).toNat ∧ psum (zA β 0 36) (zA β 0 28 p).toNat + zA β 0 36 (zA β 0 28 p) ≤ 400 := by
    refine ⟨psum_nn _ (fun j a b => hnn j a (by omega)), ?_⟩
    have h1 := psum_mono (f := zA β 0 36) (m := (zA β 0 28 p).toNat + 1) (zI β 0 34).toNat (by omega) hnn
    have h2 : psum (zA β 0 36) ((zA β 0 28 p).toNat + 1) = psum (zA β 0 36) (zA β 0 28 p).toNat + zA β 0 36 (((zA β 0 28 p).toNat : Nat) : Int) := rfl
    rw [show (((zA β 0 28 p).toNat : Nat) : Int) = zA β 0 28 p by omega] at h2
    omega
  have b : ∀ j : Nat, j ∉ WA → zA τ 0 j = zA β 0 j := hf.2
  have PU0 : PU β m τ τ (zA τ 0 50 m) := ⟨fr.rf, OU.rf, hM, hX, rfl⟩
  have hUW : ∀ j ∈ UA, j ∈ WA := by decide
  have keep : ∀ (υ : ZS) (c : Int), PU β m τ υ c → ∀ j : Nat, j ∉ WA → zA υ 0 j = zA β 0 j := fun υ c h j hj => (h.1.2 j (fun q => hj (hUW j q))).trans (b j hj)
  have fin : ∀ (υ : ZS) (c : Int), PU β m τ υ c → 0 ≤ c → 2 * c ≤ psum (szp β) p.toNat + szp β p → Q υ := fun υ c h c0 c1 => hQ υ h.1 h.2.1 h.2.2.1 h.2.2.2.1 (by rw [h.2.2.2.2, hstep]; exact ⟨c0, c1⟩)
  -- a byte
  have set : ∀ (υ : ZS) (c o bb : Int) (R : ZS → Prop), PU β m τ υ c → 0 ≤ o → o < zA β 0 36 (zA β 0 28 p) → (∀ ω : ZS, PU β m τ ω c → R ω) → wpX11_set m (zA β 0 28 p) o bb υ R := by
    intro υ c o bb R hP o0 o1 hR
    obtain ⟨hPf, hPo, hPm, hPx, hPc⟩ := hP
    have e47 : zA υ 0 47 (24 * m + zA β 0 28 p) = psum (zA β 0 36) (zA β 0 28 p).toNat := by rw [hPf.2 47 (by decide)]; exact (hT _ hs.1 hs.2).1
    unfold wpX11_set
    rw [e47]
    refine ⟨by omega, by omega, hR _ ⟨hPf.ta (by decide), hPo, ?_, hPx, hPc⟩⟩
    obtain ⟨g1, g2, g3, g4, g5⟩ := hPm
    refine ⟨g1, g2, g3, fun i i0 i1 => ?_, g5⟩
    show 0 ≤ zu (zA υ 0 49) (400 * m + psum (zA β 0 36) (zA β 0 28 p).toNat + o) (bb % 256) i ∧ zu (zA υ 0 49) (400 * m + psum (zA β 0 36) (zA β 0 28 p).toNat + o) (bb % 256) i ≤ 255
    by_cases e : i = 400 * m + psum (zA β 0 36) (zA β 0 28 p).toNat + o
    · rw [e, pu_eq]; omega
    · rw [pu_ne e]; exact g4 i i0 i1
  -- a fixup
  have fix : ∀ (υ : ZS) (k o n : Int) (R : ZS → Prop), PU β m τ υ (zA τ 0 50 m) → (0 ≤ k ∧ k ≤ 2) → 0 ≤ o → o + 2 ≤ zA β 0 36 (zA β 0 28 p) → (0 ≤ n ∧ n < 240) → -1 ≤ zA β 0 14 n → (zA β 0 13 n ≠ 3 → zA β 0 14 n < zI β 0 34) → 2 ≤ szp β p → (∀ ω : ZS, PU β m τ ω (zA τ 0 50 m + 1) → R ω) → wpX11_fix m k (zA β 0 28 p) o n υ R := by
    intro υ k o n R hP hk o0 o1 hn ha1 ha2 hz2 hR
    have ku := keep υ _ hP
    obtain ⟨hPf, hPo, hPm, hPx, hPc⟩ := hP
    have hlim : zA τ 0 50 m ≤ 199 := by
      have := wL.2.2
      omega
    have hso := (w1 n hn.1 hn.2).1
    have hnm := (w1 n hn.1 hn.2).2.2.2
    have go : ∀ ab : Int, -1 ≤ ab → ab < zI β 0 34 → wpX11_fix_67 m n (200 * m + zA τ 0 50 m) ab (200 * m + zA τ 0 50 m) (zsA (zsA (zsA υ 0 51 (200 * m + zA τ 0 50 m) k) 0 52 (200 * m + zA τ 0 50 m) (zA β 0 28 p)) 0 53 (200 * m + zA τ 0 50 m) o) R := by
      intro ab a0 a1
      unfold wpX11_fix_67
      refine ⟨by omega, hn, by omega, by omega, hR _ ⟨((((((hPf.ta (by decide)).ta (by decide)).ta (by decide)).ta (by decide)).ta (by decide)).ta (by decide)), ?_, ?_, ?_, ?_⟩⟩
      · obtain ⟨o1', o2', o3', o4'⟩ := hPo
        refine ⟨fun j hj => ?_, o2', fun f hf' => ?_, o4'⟩
        · obtain ⟨x1, x2, x3, x4⟩ := o1' j hj
          refine ⟨x1, x2, ?_, x4⟩
          show zu (zA υ 0 50) m _ j = _
          rw [pu_ne hj]; exact x3
        · obtain ⟨x1, x2, x3, x4⟩ := o3' f hf'
          have hne : f ≠ 200 * m + zA τ 0 50 m := by omega
          refine ⟨?_, ?_, ?_, ?_⟩
          · show zu (zA υ 0 51) _ _ f = _; rw [pu_ne hne]; exact x1
          · show zu (zA υ 0 52) _ _ f = _; rw [pu_ne hne]; exact x2
          · show zu (zA υ 0 53) _ _ f = _; rw [pu_ne hne]; exact x3
          · show zu (zA υ 0 54) _ _ f = _; rw [pu_ne hne]; exact x4
      · obtain ⟨g1, g2, g3, g4, g5⟩ := hPm
        refine ⟨g1, fun i i0 i1 => ?_, g3, g4, g5⟩
        show 0 ≤ zu (zA υ 0 55) (200 * m + zA τ 0 50 m) (zA υ 0 12 n) i ∧ zu (zA υ 0 55) (200 * m + zA τ 0 50 m) (zA υ 0 12 n) i ≤ 72057594037927936
        by_cases e : i = 200 * m + zA τ 0 50 m
        · rw [e, pu_eq, ku 12 (by decide)]; exact hnm
        · rw [pu_ne e]; exact g2 i i0 i1
      · intro j j0 j1
        have e50 : zA (zsA (zsA (zsA (zsA (zsA (zsA υ 0 51 (200 * m + zA τ 0 50 m) k) 0 52 (200 * m + zA τ 0 50 m) (zA β 0 28 p)) 0 53 (200 * m + zA τ 0 50 m) o) 0 54 (200 * m + zA τ 0 50 m) ab) 0 55 (200 * m + zA τ 0 50 m) (zA (zsA (zsA (zsA υ 0 51 (200 * m + zA τ 0 50 m) k) 0 52 (200 * m + zA τ 0 50 m) (zA β 0 28 p)) 0 53 (200 * m + zA τ 0 50 m) o) 0 12 n)) 0 50 m (zA (zsA (zsA (zsA υ 0 51 (200 * m + zA τ 0 50 m) k) 0 52 (200 * m + zA τ 0 50 m) (zA β 0 28 p)) 0 53 (200 * m + zA τ 0 50 m) o) 0 50 m + 1)) 0 50 m = zA υ 0 50 m + 1 := pu_eq (h := zA υ 0 50)
        rw [e50, hPc] at j1
        show (0 ≤ zu (zA υ 0 51) (200 * m + zA τ 0 50 m) k (200 * m + j) ∧ zu (zA υ 0 51) (200 * m + zA τ 0 50 m) k (200 * m + j) ≤ 2) ∧ (0 ≤ zu (zA υ 0 52) (200 * m + zA τ 0 50 m) (zA β 0 28 p) (200 * m + j) ∧ zu (zA υ 0 52) (200 * m + zA τ 0 50 m) (zA β 0 28 p) (200 * m + j) < zI β 0 34) ∧ 0 ≤ zu (zA υ 0 53) (200 * m + zA τ 0 50 m) o (200 * m + j) ∧ zu (zA υ 0 53) (200 * m + zA τ 0 50 m) o (200 * m + j) + 2 ≤ zA β 0 36 (zu (zA υ 0 52) (200 * m + zA τ 0 50 m) (zA β 0 28 p) (200 * m + j)) ∧ (-1 ≤ zu (zA υ 0 54) (200 * m + zA τ 0 50 m) ab (200 * m + j) ∧ zu (zA υ 0 54) (200 * m + zA τ 0 50 m) ab (200 * m + j) < zI β 0 34)
        by_cases e : j = zA τ 0 50 m
        · rw [e, pu_eq, pu_eq, pu_eq, pu_eq]; exact ⟨hk, hs, o0, o1, a0, a1⟩
        · have hne : 200 * m + j ≠ 200 * m + zA τ 0 50 m := by omega
          rw [pu_ne hne, pu_ne hne, pu_ne hne, pu_ne hne]
          exact hPx j j0 (by omega)
      · show zu (zA υ 0 50) m (zA υ 0 50 m + 1) m = _
        rw [pu_eq, hPc]
    unfold wpX11_fix
    rw [hPc, ku 13 (by decide), ku 14 (by decide)]
    exact ⟨by omega, by omega, hn, by omega, fun n3 => go _ ha1 (ha2 n3), fun _ => go (-1) (by decide) (by omega)⟩
  -- two bytes
  have two : ∀ (υ : ZS) (c o v sk : Int), PU β m τ υ c → 0 ≤ c → 2 * c ≤ psum (szp β) p.toNat + szp β p → 0 ≤ o + sk → o + sk + 1 < zA β 0 36 (zA β 0 28 p) → (-2147483648 ≤ v ∧ v ≤ 2147483647) → wpX11_put_320 m (zA β 0 28 p) o v sk υ Q := by
    intro υ c o v sk hP c0 c1 o0 o1 hv
    unfold wpX11_put_320
    refine set υ c _ _ _ hP o0 (by omega) (fun ω hω => ⟨hv, set ω c _ _ _ hω (by omega) (by omega) (fun ψ hψ => fin ψ c hψ c0 c1)⟩)
  have dist : ∀ (υ : ZS) (c : Int) (R : Int → ZS → Prop), PU β m τ υ c → (0 ≤ zA β 0 25 p ∧ zA β 0 25 p < 240) → (∀ d : Int, -1000000 ≤ d → d ≤ 1000000 → R d υ) → wpX11_distance p υ R := by
    intro υ c R hP hn hR
    have ku := keep υ c hP
    have h3u : G3 υ := by unfold G3; rw [ku 24 (by decide), ku 25 (by decide), ku 26 (by decide), ku 27 (by decide), ku 28 (by decide), ku 30 (by decide)]; exact w3
    have hsz := szp_eq (ku 24 (by decide)) (ku 25 (by decide)) (ku 30 (by decide))
    refine s_distance h3u (by omega) (by rw [ku 25 (by decide)]; exact hn) (hR _ ?_ ?_)
    · rw [ku 25 (by decide), ku 16 (by decide), ku 29 (by decide), hsz]
      have := wO (zA β 0 25 p) hn.1 hn.2
      omega
    · rw [ku 25 (by decide), ku 16 (by decide), ku 29 (by decide), hsz]
      have := wO (zA β 0 25 p) hn.1 hn.2
      omega
  have hszv : szp β p = szf (zA β 0 24 p) (zA β 0 25 p) (zA β 0 30 p) := rfl
  have hc1 := hc.1
  -- jumps and calls
  have f183 : zA β 0 24 p = 4 ∨ zA β 0 24 p = 6 → wpX11_put_183 m p (zA β 0 28 p) (zA β 0 29 p) (zA β 0 25 p) τ Q := by
    intro h46
    have hn := q2 (by omega) (by omega)
    have hso := (w1 _ hn.1 hn.2).1
    have f208 : ∀ s0 : Int, (s0 = 0 ∨ s0 = 1) → (s0 = 0 → szp β p = 2 ∧ zA β 0 13 (zA β 0 25 p) ≠ 3) → (s0 = 1 → szp β p = 3) → wpX11_put_208 m p (zA β 0 28 p) (zA β 0 29 p) (zA β 0 25 p) s0 τ Q := by
      intro s0 h01 hz0 hz1
      have f246 : ∀ by_ : Int, wpX11_put_246 m p (zA β 0 28 p) (zA β 0 29 p) (zA β 0 25 p) s0 by_ (zA β 0 29 p) (zA β 0 28 p) m τ Q := by
        intro by_
        unfold wpX11_put_246
        refine set τ _ _ _ _ PU0 hat.1 (by omega) (fun υ hυ => ?_)
        have ku := keep υ _ hυ
        have f295 : ∀ (ω : ZS) (c v : Int), PU β m τ ω c → 0 ≤ c → 2 * c ≤ psum (szp β) p.toNat + szp β p → (-1000000 ≤ v ∧ v ≤ 1000000) → wpX11_put_295 m (zA β 0 28 p) (zA β 0 29 p) v s0 ω Q := by
          intro ω c v hω c0 c1 hv
          unfold wpX11_put_295
          refine ⟨by omega, fun n0 => two ω c _ _ _ hω c0 c1 (by omega) (by have := hz1 (by omega); omega) (by omega), fun e0 => set ω c _ _ _ hω (by omega) (by have := hz0 e0; omega) (fun ψ hψ => fin ψ c hψ c0 c1)⟩
        have f269 : ∀ v : Int, -1000000 ≤ v → v ≤ 1000000 → wpX11_put_269 m (zA β 0 28 p) (zA β 0 29 p) (zA β 0 25 p) s0 v υ Q := by
          intro v v0 v1
          unfold wpX11_put_269
          rw [ku 13 (by decide)]
          refine ⟨hn, by omega, fun _ => f295 υ _ v hυ hc1 (by omega) ⟨v0, v1⟩, fun e3 => ?_⟩
          have z3 : szp β p = 3 := by
            rcases h01 with h | h
            · exact absurd e3 (hz0 h).2
            · exact hz1 h
          exact fix υ 2 _ _ _ hυ (by decide) (by omega) (by omega) hn (w1 _ hn.1 hn.2).2.1.1 (fun q => absurd e3 q) (by omega) (fun ω hω => f295 ω _ v hω (by omega) (by omega) ⟨v0, v1⟩)
        rw [ku 13 (by decide)]
        exact ⟨hn, by omega, fun _ => dist υ _ _ hυ hn (fun d d0 d1 => f269 d d0 d1), fun _ => f269 0 (by decide) (by decide)⟩
      unfold wpX11_put_208
      rw [b 24 (by decide)]
      exact ⟨by omega, by omega, fun _ => ⟨by omega, fun _ => f246 235, fun _ => f246 233⟩, fun _ => f246 232⟩
    unfold wpX11_put_183 wpX11_put_203
    rw [b 24 (by decide), b 30 (by decide)]
    refine ⟨by omega, by omega, fun e6 => f208 1 (Or.inr rfl) (fun q => absurd q (by decide)) (fun _ => by rw [hszv, e6]; rfl), fun n6 => ⟨by omega, fun z => ?_, fun nz => ?_⟩⟩
    · have e4 : zA β 0 24 p = 4 := by omega
      refine f208 0 (Or.inl rfl) (fun _ => ⟨by rw [hszv, e4, z]; rfl, fun e3 => ?_⟩) (fun q => absurd q (by decide))
      have := wne p hp.1 hp.2 e4 e3
      omega
    · have e4 : zA β 0 24 p = 4 := by omega
      refine f208 1 (Or.inr rfl) (fun q => absurd q (by decide)) (fun _ => ?_)
      rw [hszv, e4, show zA β 0 30 p = 1 by omega]; rfl
  have z1 : zA β 0 24 p = 0 → szp β p = 1 := fun e => by rw [hszv, e]; rfl
  unfold wpX11_put
  rw [b 24 (by decide), b 28 (by decide), b 29 (by decide), b 25 (by decide), b 13 (by decide), b 16 (by decide), b 26 (by decide)]
  refine ⟨by omega, by omega, fun e => set τ _ _ _ _ PU0 hat.1 (by have := z1 e; omega) (fun υ hυ => fin υ _ hυ hc1 (by omega)), fun n0 => ⟨fun e => ?_, fun n1 => ⟨fun e => ?_, fun n2 => ⟨fun e => ?_, fun n3 => ⟨fun e => f183 (Or.inl e), fun n4 => ⟨fun e => ?_, fun n5 => ⟨fun e => f183 (Or.inr e), fun n6 => fin τ _ PU0 hc1 (by omega)⟩⟩⟩⟩⟩⟩⟩
  · have z2 : szp β p = 2 := by rw [hszv, e]; rfl
    exact two τ _ _ _ _ PU0 hc1 (by omega) (by omega) (by omega) (by omega)
  · have z2 : szp β p = 2 := by rw [hszv, e]; rfl
    have hn := q2 (by omega) (by omega)
    have hso := (w1 _ hn.1 hn.2).1
    have hof := wO _ hn.1 hn.2
    have hab := wab p hp.1 hp.2 (Or.inl e)
    have f122 : ∀ s1 s0 : Int, -30000000 ≤ s1 + s0 → s1 + s0 ≤ 30000000 → wpX11_put_122 m (zA β 0 28 p) (zA β 0 29 p) (zA β 0 25 p) 0 s1 s0 τ Q := by
      intro s1 s0 z0 z1
      unfold wpX11_put_122
      exact fix τ 0 _ _ _ PU0 (by decide) hat.1 (by omega) hn hab.1 hab.2 (by omega) (fun ω hω => two ω _ _ _ _ hω (by omega) (by omega) (by omega) (by omega) (by omega))
    exact ⟨hn, by omega, fun _ => f122 _ _ (by omega) (by omega), fun _ => f122 _ _ (by omega) (by omega)⟩
  · have z2 : szp β p = 2 := by rw [hszv, e]; rfl
    have hn := q2 (by omega) (by omega)
    have hab := wab p hp.1 hp.2 (Or.inr e)
    exact fix τ 1 _ _ _ PU0 (by decide) hat.1 (by omega) hn hab.1 hab.2 (by omega) (fun ω hω => two ω _ _ _ _ hω (by omega) (by omega) (by omega) (by omega) (by decide))
  · have z2 : szp β p = 2 := by rw [hszv, e]; rfl
    have hn := q2 (by omega) (by omega)
    exact set τ _ _ _ _ PU0 hat.1 (by omega) (fun υ hυ => dist υ _ _ hυ hn (fun d d0 d1 => set υ _ _ _ _ hυ (by omega) (by omega) (fun ψ hψ => fin ψ _ hψ hc1 (by omega))))
