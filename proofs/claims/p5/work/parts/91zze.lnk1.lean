/-! X: publics and externs of all modules, exactly, on both sides -/
/-- a word is public in a module before L (the class) -/
def PbC (σ : ZS) (w L : Int) : Prop := ∃ m q : Int, (0 ≤ m ∧ m < L) ∧ zI σ m 0 ≠ 0 ∧ (0 ≤ q ∧ q < zI σ m 13) ∧ zA σ m 14 q = w
theorem x_hasModules {σ : ZS} {Q : Int → ZS → Prop} (h : M3 σ) (h1 : (∃ m : Int, (0 ≤ m ∧ m ≤ 2) ∧ zI σ m 0 ≠ 0) → Q 1 σ) (h0 : (∀ m : Int, 0 ≤ m → m ≤ 2 → zI σ m 0 = 0) → Q 0 σ) : wpX3_hasModules σ Q := by
  unfold wpX3_hasModules wpX3_hasModules_2
  refine lfp1_ind (fun v _ => (3 - v).toNat) (fun v τ => τ = σ ∧ (0 ≤ v ∧ v ≤ 3) ∧ ∀ m : Int, 0 ≤ m → m < v → zI σ m 0 = 0) (fun K v τ hI ih => ?_) ⟨rfl, by decide, fun m m0 m1 => absurd m1 (by omega)⟩
  obtain ⟨e, hv, hn⟩ := hI
  rw [e]
  unfold wpbX3_hasModules_2
  refine ⟨by omega, fun _ => h0 (fun m m0 m2 => hn m m0 (by omega)), fun q => ?_⟩
  have := (h v hv.1 (by omega)).1
  refine ⟨by omega, by omega, fun z => ih _ _ ⟨rfl, by omega, fun m m0 m1 => ?_⟩ (by omega), fun nz => h1 ⟨v, by omega, nz⟩⟩
  by_cases ev : m = v
  · rw [ev]; exact z
  · exact hn m m0 (by omega)
theorem x_publicModule {σ : ZS} {w L : Int} {Q : Int → ZS → Prop} (h : M3 σ) (hL : 0 ≤ L ∧ L ≤ 3) (hw : 0 ≤ w ∧ w ≤ 4398046511103) (h1 : ∀ m q : Int, (0 ≤ m ∧ m < L) → zI σ m 0 ≠ 0 → (0 ≤ q ∧ q < zI σ m 13) → zA σ m 14 q = w → Q m σ) (h0 : ¬ PbC σ w L → Q (-1) σ) : wpX3_publicModule w L σ Q := by
  unfold wpX3_publicModule wpX3_publicModule_3
  refine lfp1_ind (fun v _ => (3 - v).toNat) (fun v τ => τ = σ ∧ (0 ≤ v ∧ v ≤ 3) ∧ (∀ m q : Int, (0 ≤ m ∧ m < v) → zI σ m 0 ≠ 0 → (0 ≤ q ∧ q < zI σ m 13) → zA σ m 14 q ≠ w)) (fun K v τ hI ih => ?_) ⟨rfl, by decide, fun m q mb => absurd mb (by omega)⟩
  obtain ⟨e, hv, hn⟩ := hI
  rw [e]
  unfold wpbX3_publicModule_3 wpX3_publicModule_39
  refine ⟨by omega, by omega, fun ge => h0 (fun ⟨m, q, mb, mt, qb, qw⟩ => hn m q (by omega) mt qb qw), fun q => ?_⟩
  have hm := h v hv.1 (by omega)
  have h13 := hm.2.2.2.1
  have on : (∀ q : Int, zI σ v 0 ≠ 0 → (0 ≤ q ∧ q < zI σ v 13) → zA σ v 14 q ≠ w) → K (v + 1) σ := by
    intro hh
    refine ih _ _ ⟨rfl, by omega, fun m q mb mt qb => ?_⟩ (by omega)
    by_cases ev : m = v
    · rw [ev] at mt qb ⊢; exact hh q mt qb
    · exact hn m q (by omega) mt qb
  exact ⟨by omega, by have := hm.1; omega, fun z => on (fun _ nz => absurd z nz), fun nz => c_publicNumber (by omega) hm hw (fun x x0 x1 xe _ => ⟨by omega, fun q => absurd x0 (by omega), fun _ => h1 v x (by omega) nz ⟨x0, x1⟩ xe⟩) (fun no => ⟨by decide, fun _ => on (fun q _ qb => no q qb.1 qb.2), fun q => absurd (by decide) q⟩)⟩
/-- no word is public twice (the class) -/
def NTc (σ : ZS) : Prop := ∀ m i : Int, (1 ≤ m ∧ m ≤ 2) → (0 ≤ i ∧ i < zI σ m 13) → ¬ PbC σ (zA σ m 14 i) m
theorem x_firstPublicTwice {σ : ZS} {Q : Int → ZS → Prop} (h : M3 σ) (h0 : NTc σ → Q (-1) σ) (h1 : ∀ x : Int, (0 ≤ x ∧ x ≤ 2) → ¬ NTc σ → Q x σ) : wpX3_firstPublicTwice σ Q := by
  unfold wpX3_firstPublicTwice wpX3_firstPublicTwice_2
  refine lfp1_ind (fun v _ => (3 - v).toNat) (fun v τ => τ = σ ∧ (1 ≤ v ∧ v ≤ 3) ∧ (∀ m i : Int, (1 ≤ m ∧ m < v) → (0 ≤ i ∧ i < zI σ m 13) → ¬ PbC σ (zA σ m 14 i) m)) (fun K v τ hI ih => ?_) ⟨rfl, by decide, fun m i mb => absurd mb (by omega)⟩
  obtain ⟨e, hv, hn⟩ := hI
  rw [e]
  unfold wpbX3_firstPublicTwice_2 wpX3_firstPublicTwice_16
  refine ⟨by omega, fun _ => h0 (fun m i mb ib => hn m i (by omega) ib), fun q => ⟨by omega, ?_⟩⟩
  have hm := h v (by omega) (by omega)
  have h13 := hm.2.2.2.1
  refine lfp1_ind (fun u _ => (24 - u).toNat) (fun u τ => τ = σ ∧ (0 ≤ u ∧ u ≤ 24) ∧ (∀ i : Int, (0 ≤ i ∧ i < u) → i < zI σ v 13 → ¬ PbC σ (zA σ v 14 i) v)) (fun K' u τ' hI' ih' => ?_) ⟨rfl, by decide, fun i ib => absurd ib (by omega)⟩
  obtain ⟨e', hu, hi⟩ := hI'
  rw [e']
  unfold wpbX3_firstPublicTwice_16
  refine ⟨by omega, by omega, by omega, fun _ => ih _ _ ⟨rfl, by omega, fun m i mb ib => ?_⟩ (by omega), fun q' => ⟨by omega, ?_⟩⟩
  · by_cases ev : m = v
    · rw [ev] at ib ⊢; exact hi i (by omega) ib.2
    · exact hn m i (by omega) ib
  have hp := (hm.2.2.2.2.2.2.2 u hu.1 (by omega)).1
  refine x_publicModule h (by omega) hp (fun m j mb mt jb jw => ⟨by omega, fun q => absurd mb.1 (by omega), fun _ => h1 _ (by omega) (fun nt => nt v u (by omega) (by omega) ⟨m, j, mb, mt, jb, jw⟩)⟩) (fun no => ⟨by decide, fun _ => ih' _ _ ⟨rfl, by omega, fun i ib il => ?_⟩ (by omega), fun q => absurd (by decide) q⟩)
  by_cases ev : i = u
  · rw [ev]; exact no
  · exact hi i (by omega) il
/-- every name from outside is public (the class) -/
def NMc (σ : ZS) : Prop := ∀ m k : Int, (0 ≤ m ∧ m ≤ 2) → (0 ≤ k ∧ k < zI σ m 7) → zA σ m 11 k < 0 → PbC σ (zA σ m 12 k) 3
theorem x_firstUnsolved {σ : ZS} {Q : Int → ZS → Prop} (h : M3 σ) (h0 : NMc σ → Q (-1) σ) (h1 : ∀ x : Int, (0 ≤ x ∧ x ≤ 2) → ¬ NMc σ → Q x σ) : wpX3_firstUnsolved σ Q := by
  unfold wpX3_firstUnsolved wpX3_firstUnsolved_2
  refine lfp1_ind (fun v _ => (3 - v).toNat) (fun v τ => τ = σ ∧ (0 ≤ v ∧ v ≤ 3) ∧ (∀ m k : Int, (0 ≤ m ∧ m < v) → (0 ≤ k ∧ k < zI σ m 7) → zA σ m 11 k < 0 → PbC σ (zA σ m 12 k) 3)) (fun K v τ hI ih => ?_) ⟨rfl, by decide, fun m k mb => absurd mb (by omega)⟩
  obtain ⟨e, hv, hn⟩ := hI
  rw [e]
  unfold wpbX3_firstUnsolved_2 wpX3_firstUnsolved_16
  refine ⟨by omega, fun _ => h0 (fun m k mb kb => hn m k (by omega) kb), fun q => ⟨by omega, ?_⟩⟩
  have hm := h v (by omega) (by omega)
  have h7 := hm.2.2.1
  refine lfp1_ind (fun u _ => (200 - u).toNat) (fun u τ => τ = σ ∧ (0 ≤ u ∧ u ≤ 200) ∧ (∀ k : Int, (0 ≤ k ∧ k < u) → k < zI σ v 7 → zA σ v 11 k < 0 → PbC σ (zA σ v 12 k) 3)) (fun K' u τ' hI' ih' => ?_) ⟨rfl, by decide, fun k kb => absurd kb (by omega)⟩
  obtain ⟨e', hu, hi⟩ := hI'
  rw [e']
  unfold wpbX3_firstUnsolved_16 wpX3_firstUnsolved_49
  refine ⟨by omega, by omega, by omega, fun _ => ih _ _ ⟨rfl, by omega, fun m k mb kb => ?_⟩ (by omega), fun q' => ?_⟩
  · by_cases ev : m = v
    · rw [ev] at kb ⊢; exact hi k (by omega) kb.2
    · exact hn m k (by omega) kb
  have hp := hm.2.2.2.2.2.2.1 u hu.1 (by omega)
  have on : (zA σ v 11 u < 0 → PbC σ (zA σ v 12 u) 3) → K' (u + 1) σ := by
    intro hh
    refine ih' _ _ ⟨rfl, by omega, fun k kb kl => ?_⟩ (by omega)
    by_cases ev : k = u
    · rw [ev]; exact hh
    · exact hi k (by omega) kl
  exact ⟨by omega, by omega, fun q => on (fun w => absurd q (by omega)), fun q => x_publicModule h (by decide) hp.2.2.2.2 (fun m j mb mt jb jw => ⟨by omega, fun _ => on (fun _ => ⟨m, j, mb, mt, jb, jw⟩), fun w => absurd mb.1 w⟩) (fun no => ⟨by decide, fun w => absurd w (by decide), fun _ => h1 _ (by omega) (fun nm => no (nm v u (by omega) (by omega) (by omega)))⟩)⟩
theorem x_hasMain {σ : ZS} {Q : Int → ZS → Prop} (h : M3 σ) (h1 : PbC σ 230192366 3 → Q 1 σ) (h0 : ¬ PbC σ 230192366 3 → Q 0 σ) : wpX3_hasMain σ Q := by
  unfold wpX3_hasMain wpX3_hasMain_16
  exact x_publicModule h (by decide) (by decide) (fun m j mb mt jb jw => ⟨by omega, fun q => absurd mb.1 (by omega), fun _ => ⟨by decide, h1 ⟨m, j, mb, mt, jb, jw⟩⟩⟩) (fun no => ⟨by decide, fun _ => ⟨by decide, h0 no⟩, fun q => absurd (by decide) q⟩)
/-- no word is public twice (the reference) -/
def NTr (ρ : ZS) : Prop := ∀ m k n j : Int, (1 ≤ m ∧ m ≤ 2) → zA ρ 0 43 m ≠ 0 → (0 ≤ k ∧ k < zA ρ 0 56 m) → (0 ≤ n ∧ n < m) → zA ρ 0 43 n ≠ 0 → (0 ≤ j ∧ j < zA ρ 0 56 n) → zA ρ 0 57 (80 * n + j) ≠ zA ρ 0 57 (80 * m + k)
theorem y_twice {σ : ZS} {Q : Int → ZS → Prop} (hA : MA σ) (h0 : NTr σ → Q (-1) σ) (h1 : ∀ r : Int, (0 ≤ r ∧ r ≤ 2) → ¬ NTr σ → Q r σ) : wpX11_twice σ Q := by
  unfold wpX11_twice wpX11_twice_2
  refine lfp1_ind (fun v _ => (3 - v).toNat) (fun v τ => τ = σ ∧ (1 ≤ v ∧ v ≤ 3) ∧ (∀ m k n j : Int, (1 ≤ m ∧ m < v) → zA σ 0 43 m ≠ 0 → (0 ≤ k ∧ k < zA σ 0 56 m) → (0 ≤ n ∧ n < m) → zA σ 0 43 n ≠ 0 → (0 ≤ j ∧ j < zA σ 0 56 n) → zA σ 0 57 (80 * n + j) ≠ zA σ 0 57 (80 * m + k))) ?_ ⟨rfl, by omega, fun m k n j mb => absurd mb (by omega)⟩
  intro P m τ ⟨he, hm, hno⟩ ih
  rw [he]
  show wpbX11_twice_2 P m σ Q
  unfold wpbX11_twice_2
  refine ⟨by omega, fun _ => h0 (fun m' k n j mb => hno m' k n j (by omega)), fun ne => ?_⟩
  have hM := (hA.2 m (by omega) (by omega)).1.2.2
  have h43 := hA.1.2.2.2.2 m (by omega) (by omega)
  unfold wpX11_twice_9
  refine lfp1_ind (fun v _ => (80 - v).toNat) (fun v τ => τ = σ ∧ (0 ≤ v ∧ v ≤ zA σ 0 56 m) ∧ (∀ k n j : Int, zA σ 0 43 m ≠ 0 → (0 ≤ k ∧ k < v) → (0 ≤ n ∧ n < m) → zA σ 0 43 n ≠ 0 → (0 ≤ j ∧ j < zA σ 0 56 n) → zA σ 0 57 (80 * n + j) ≠ zA σ 0 57 (80 * m + k))) ?_ ⟨rfl, by omega, fun k n j _ kb => absurd kb (by omega)⟩
  intro P9 k τ ⟨he9, hk, hnk⟩ ih9
  rw [he9]
  show wpbX11_twice_9 P P9 m k σ Q
  have out : zA σ 0 43 m = 0 ∨ k = zA σ 0 56 m → P (m + 1) σ := by
    intro hq
    refine ih _ _ ⟨rfl, by omega, fun m' k' n j mb mt kb => ?_⟩ (by show (3 - (m + 1)).toNat < (3 - m).toNat; omega)
    by_cases em : m' = m
    · rw [em] at mt kb ⊢
      rcases hq with q | q
      · exact absurd q mt
      · exact hnk k' n j mt (by omega)
    · exact hno m' k' n j (by omega) mt kb
  unfold wpbX11_twice_9 wpX11_twice_68
  refine ⟨by omega, by omega, by omega, fun _ => out (Or.inr (by omega)), fun ne9 => ⟨by omega, fun z => out (Or.inl z), fun nz => ?_⟩⟩
  have h57 := hA.1.2.2.1 (80 * m + k) (by omega) (by omega)
  unfold wpX11_twice_30
  refine lfp1_ind (fun v _ => (m - v).toNat) (fun v τ => τ = σ ∧ (0 ≤ v ∧ v ≤ m) ∧ (∀ n j : Int, (0 ≤ n ∧ n < v) → zA σ 0 43 n ≠ 0 → (0 ≤ j ∧ j < zA σ 0 56 n) → zA σ 0 57 (80 * n + j) ≠ zA σ 0 57 (80 * m + k))) ?_ ⟨rfl, by omega, fun n j nb => absurd nb (by omega)⟩
  intro P30 n τ ⟨he30, hn, hnn⟩ ih30
  rw [he30]
  show wpbX11_twice_30 P P9 P30 m k n σ Q
  unfold wpbX11_twice_30
  refine ⟨by omega, by omega, fun ge => ih9 _ _ ⟨rfl, by omega, fun k' n' j mt kb nb => ?_⟩ (by show (80 - (k + 1)).toNat < (80 - k).toNat; omega), fun ne30 => ⟨by omega, ?_⟩⟩
  · by_cases ek : k' = k
    · rw [ek]; exact hnn n' j (by omega)
    · exact hnk k' n' j mt (by omega) nb
  have hN := (hA.2 n (by omega) (by omega)).1.2.2
  refine s_publicIn hA ⟨hn.1, by omega⟩ h57 (fun no => ⟨by decide, fun _ => ih30 _ _ ⟨rfl, by omega, fun n' j nb nt jb => ?_⟩ (by show (m - (n + 1)).toNat < (m - n).toNat; omega), fun q => absurd (by decide) q⟩) (fun j j0 j1 nt je => ⟨by omega, fun l => absurd l (by omega), fun _ => h1 _ (by omega) (fun t => t m k n j (by omega) nz (by omega) (by omega) nt ⟨j0, j1⟩ je)⟩)
  by_cases en : n' = n
  · rw [en] at nt jb ⊢; exact no j jb.1 jb.2 nt
  · exact hnn n' j (by omega) nt jb
theorem y_missing {σ : ZS} {Q : Int → ZS → Prop} (hA : MA σ) (h0 : NoMiss σ → Q (-1) σ) (h1 : ∀ r : Int, (0 ≤ r ∧ r ≤ 2) → ¬ NoMiss σ → Q r σ) : wpX11_missing σ Q := by
  unfold wpX11_missing wpX11_missing_2
  refine lfp1_ind (fun v _ => (3 - v).toNat) (fun v τ => τ = σ ∧ (0 ≤ v ∧ v ≤ 3) ∧ (∀ m k : Int, 0 ≤ m → m < v → zA σ 0 43 m ≠ 0 → 0 ≤ k → k < zA σ 0 50 m → zA σ 0 54 (200 * m + k) < 0 → Pub σ (zA σ 0 55 (200 * m + k)))) ?_ ⟨rfl, by omega, fun m k a b => absurd b (by omega)⟩
  intro P m τ ⟨he, hm, hno⟩ ih
  rw [he]
  show wpbX11_missing_2 P m σ Q
  unfold wpbX11_missing_2
  refine ⟨by omega, fun _ => h0 (fun m k m0 m1 => hno m k m0 (by omega)), fun ne => ?_⟩
  have hM := (hA.2 m (by omega) (by omega)).1.2.1
  have h43 := hA.1.2.2.2.2 m (by omega) (by omega)
  unfold wpX11_missing_9
  refine lfp1_ind (fun v _ => (200 - v).toNat) (fun v τ => τ = σ ∧ (0 ≤ v ∧ v ≤ zA σ 0 50 m) ∧ (∀ k : Int, zA σ 0 43 m ≠ 0 → 0 ≤ k → k < v → zA σ 0 54 (200 * m + k) < 0 → Pub σ (zA σ 0 55 (200 * m + k)))) ?_ ⟨rfl, by omega, fun k _ a b => absurd b (by omega)⟩
  intro P9 k τ ⟨he9, hk, hnk⟩ ih9
  rw [he9]
  show wpbX11_missing_9 P P9 m k σ Q
  have out : zA σ 0 43 m = 0 ∨ k = zA σ 0 50 m → P (m + 1) σ := by
    intro hq
    refine ih _ _ ⟨rfl, by omega, fun m' k' a b c d e f => ?_⟩ (by show (3 - (m + 1)).toNat < (3 - m).toNat; omega)
    by_cases em : m' = m
    · rw [em] at c e f ⊢
      rcases hq with q | q
      · exact absurd q c
      · exact hnk k' c d (by omega) f
    · exact hno m' k' a (by omega) c d e f
  unfold wpbX11_missing_9 wpX11_missing_70 wpX11_missing_64
  refine ⟨by omega, by omega, by omega, fun _ => out (Or.inr (by omega)), fun ne9 => ⟨by omega, fun z => out (Or.inl z), fun nz => ?_⟩⟩
  have h54 := ((hA.2 m (by omega) (by omega)).2.2.1 k hk.1 (by omega)).2.2.2.2
  have h44 := (hA.2 m (by omega) (by omega)).1.1
  have h55 := hA.1.2.1 (200 * m + k) (by omega) (by omega)
  have next : (zA σ 0 54 (200 * m + k) < 0 → Pub σ (zA σ 0 55 (200 * m + k))) → P9 (k + 1) σ := by
    intro hq
    refine ih9 _ _ ⟨rfl, by omega, fun k' a b c d => ?_⟩ (by show (200 - (k + 1)).toNat < (200 - k).toNat; omega)
    by_cases e : k' = k
    · rw [e] at d ⊢; exact hq d
    · exact hnk k' a b (by omega) d
  refine ⟨by omega, by omega, fun g => next (fun l => absurd l (by omega)), fun ng => ?_⟩
  refine s_publicOf hA h55 (fun np => ⟨by decide, fun q => absurd q (by decide), fun _ => h1 _ (by omega) (fun nm => np (nm m k (by omega) (by omega) nz hk.1 (by omega) (by omega)))⟩) (fun m' k' hm' hk' h43' h57' => ?_)
  have hN := (hA.2 m' hm'.1 hm'.2).1.2.2
  exact ⟨by omega, fun _ => next (fun _ => ⟨m', k', hm', h43', hk', h57'⟩), fun q => absurd (by omega) q⟩
