/-! X: the words of the class, exactly -/
theorem wv_inj {h g : Int → Int} {s b : Int} : ∀ n m : Nat, (∀ j : Nat, j < n → 0 < h (s + j) ∧ h (s + j) < 256) → (∀ j : Nat, j < m → 0 < g (b + j) ∧ g (b + j) < 256) → wv h s n = wv g b m → n = m ∧ ∀ j : Nat, j < n → h (s + j) = g (b + j)
  | 0, 0, _, _, _ => ⟨rfl, fun j hj => absurd hj (Nat.not_lt_zero j)⟩
  | 0, m + 1, _, hg, e => by
    have h1 := hg m (by omega)
    have e' : (0 : Int) = wv g b m * 256 + g (b + m) := e
    have := wv_bd (h := g) (s := b) m (fun j a c => by have := hg (j - b).toNat (by omega); rw [show b + ((j - b).toNat : Int) = j by omega] at this; omega)
    omega
  | n + 1, 0, hh, _, e => by
    have h1 := hh n (by omega)
    have e' : wv h s n * 256 + h (s + n) = (0 : Int) := e
    have := wv_bd (h := h) (s := s) n (fun j a c => by have := hh (j - s).toNat (by omega); rw [show s + ((j - s).toNat : Int) = j by omega] at this; omega)
    omega
  | n + 1, m + 1, hh, hg, e => by
    have h1 := hh n (by omega)
    have g1 := hg m (by omega)
    have e' : wv h s n * 256 + h (s + n) = wv g b m * 256 + g (b + m) := e
    obtain ⟨en, ej⟩ := wv_inj n m (fun j hj => hh j (by omega)) (fun j hj => hg j (by omega)) (by omega)
    refine ⟨by omega, fun j hj => ?_⟩
    by_cases q : j = n
    · subst en; rw [q]; omega
    · exact ej j (by omega)
theorem wv_cg {h g : Int → Int} {s b : Int} : ∀ n : Nat, (∀ j : Nat, j < n → h (s + j) = g (b + j)) → wv h s n = wv g b n
  | 0, _ => rfl
  | n + 1, hh => by
    show wv h s n * 256 + h (s + n) = wv g b n * 256 + g (b + n)
    rw [wv_cg n (fun j hj => hh j (by omega)), hh n (by omega)]
def xch (n : Nat) (i : Int) : Int := zby n i % 256 % 65536
def xb1 (k : Nat) : Nat := ([0, 3, 6, 9, 12, 15, 18, 21, 24] : List Nat).getD k 0
def xl1 (k : Nat) : Nat := xb1 (k + 1) - 1 - xb1 k
theorem x_Fa1 : ∀ k : Nat, k < 8 → xl1 k ≤ 6 ∧ xb1 (k + 1) = xb1 k + xl1 k + 1 ∧ wv (xch 1) (xb1 k : Nat) (xl1 k) = zwords ((0 + k : Nat) : Int) := by decide +kernel
def xm1 (k m : Nat) : Bool := decide (xb1 k + m ≤ 23) && (decide (xb1 k + m ≠ 23) && decide (xch 1 ((xb1 k + m : Nat) : Int) ≠ 32) && decide (0 < xch 1 ((xb1 k + m : Nat) : Int)) && decide (xch 1 ((xb1 k + m : Nat) : Int) < 256) || decide (xl1 k ≤ m)) && (decide (xb1 k + m = 23) || decide (xch 1 ((xb1 k + m : Nat) : Int) = 32) || decide (m < xl1 k))
theorem x_Fb1 : ∀ k : Nat, k < 8 → ∀ m : Nat, m < 7 → (decide (xl1 k < m) || xm1 k m) = true := by decide +kernel
theorem x_F1 (k : Nat) (hk : k < 8) : xl1 k ≤ 6 ∧ xb1 (k + 1) = xb1 k + xl1 k + 1 ∧ wv (xch 1) (xb1 k : Nat) (xl1 k) = zwords ((0 + k : Nat) : Int) ∧ ∀ m : Nat, m < 7 → m ≤ xl1 k → xb1 k + m ≤ 23 ∧ (m < xl1 k → xb1 k + m ≠ 23 ∧ xch 1 ((xb1 k + m : Nat) : Int) ≠ 32 ∧ 0 < xch 1 ((xb1 k + m : Nat) : Int) ∧ xch 1 ((xb1 k + m : Nat) : Int) < 256) ∧ (m = xl1 k → xb1 k + m = 23 ∨ xch 1 ((xb1 k + m : Nat) : Int) = 32) := by
  obtain ⟨a, b, c⟩ := x_Fa1 k hk
  refine ⟨a, b, c, fun m hm hl => ?_⟩
  have d := x_Fb1 k hk m hm
  unfold xm1 at d
  simp only [Bool.or_eq_true, Bool.and_eq_true, decide_eq_true_eq] at d
  omega
theorem x_ordinal1 {σ : ZS} {s e : Int} {Q : Int → ZS → Prop} (hX : TX σ) (hb : 0 ≤ s ∧ s ≤ e ∧ e ≤ 480) (hp : ∀ j : Int, s ≤ j → j < e → 0 < zA σ 10 0 j) (hQ : ∀ x : Int, ((x = -1 ∧ ∀ k : Nat, k < 8 → zwords ((0 + k : Nat) : Int) ≠ wv (zA σ 10 0) s (e - s).toNat) ∨ (∃ k : Nat, x = k ∧ k < 8 ∧ zwords ((0 + k : Nat) : Int) = wv (zA σ 10 0) s (e - s).toNat)) → Q x σ) : wpX9_ordinal_S1 s e σ Q := by
  have hh : ∀ n : Nat, s + n ≤ e → ∀ j : Nat, j < n → 0 < zA σ 10 0 (s + j) ∧ zA σ 10 0 (s + j) < 256 := fun n hn j hj => by
    have := hp (s + j) (by omega) (by omega)
    have := hX.2.1 (s + j) (by omega) (by omega)
    omega
  unfold wpX9_ordinal_S1 wpX9_ordinal_S1_12
  refine lfp4_ind (fun _ _ _ v _ => (24 - v).toNat) (fun v4 v5 v6 v7 τ => τ = σ ∧ ∃ k m : Nat, v4 = k ∧ v5 = m ∧ v7 = ((xb1 k + m : Nat) : Int) ∧ ((k < 8 ∧ m ≤ xl1 k ∧ (0 ≤ v6 ∧ v6 ≤ 1) ∧ (¬ v6 = 0 ↔ ∀ j : Nat, j < m → s + j < e ∧ zA σ 10 0 (s + j) = xch 1 ((xb1 k : Nat) + j))) ∨ (k = 8 ∧ m = 0)) ∧ ∀ k' : Nat, k' < k → zwords ((0 + k' : Nat) : Int) ≠ wv (zA σ 10 0) s (e - s).toNat) (fun K v4 v5 v6 v7 τ hI ih => ?_) ⟨rfl, 0, 0, rfl, rfl, rfl, Or.inl ⟨by decide, Nat.zero_le _, by decide, fun _ j hj => absurd hj (Nat.not_lt_zero j), fun _ => by decide⟩, fun k' hk => absurd hk (Nat.not_lt_zero k')⟩
  obtain ⟨e0, k, m, h4, h5, h7, hc, hn⟩ := hI
  rw [e0]
  unfold wpbX9_ordinal_S1_12
  refine c_len1 ?_
  rcases hc with ⟨hk, hm, h6, hv⟩ | ⟨hk, hm⟩
  rotate_left
  · have e7 : v7 = 24 := by rw [h7, hk, hm]; rfl
    rw [e7]
    exact ⟨by decide, by decide, fun _ => hQ _ (Or.inl ⟨rfl, fun k' h' => hn k' (by omega)⟩), fun a => absurd (by decide) a⟩
  obtain ⟨f6, fb, fw, fm⟩ := x_F1 k hk
  obtain ⟨m1, m2, m3⟩ := fm m (by omega) hm
  have end0 : m = xl1 k → wpX9_ordinal_S1_41 K s e v4 v5 v6 v7 σ Q := by
    intro q
    have nx : (v6 = 0 ∨ ¬ s + v5 = e) → K (v4 + 1) 0 1 (v7 + 1) σ := by
      intro hz
      have hne : zwords ((0 + k : Nat) : Int) ≠ wv (zA σ 10 0) s (e - s).toNat := by
        intro ee
        rw [← fw] at ee
        obtain ⟨en, ej⟩ := wv_inj (xl1 k) (e - s).toNat (fun j hj => ((fm j (by omega) (by omega)).2.1 hj).2.2) (hh (e - s).toNat (by omega)) ee
        rcases hz with hz | hz
        · exact absurd hz (hv.mpr (fun j hj => ⟨by omega, (ej j (by omega)).symm⟩))
        · exact hz (by omega)
      refine ih _ _ _ _ _ ⟨rfl, k + 1, 0, by omega, rfl, by omega, ?_, fun k' hk' => ?_⟩ (by omega)
      · by_cases qk : k + 1 < 8
        · exact Or.inl ⟨qk, Nat.zero_le _, by decide, fun _ j hj => absurd hj (Nat.not_lt_zero j), fun _ => by decide⟩
        · exact Or.inr ⟨by omega, rfl⟩
      · by_cases qk : k' = k
        · rw [qk]; exact hne
        · exact hn k' (by omega)
    unfold wpX9_ordinal_S1_41 wpX9_ordinal_S1_57 wpX9_ordinal_S1_107
    refine ⟨by omega, fun z => nx (Or.inl z), fun z => ⟨by omega, by omega, fun y => nx (Or.inr y), fun y => hQ _ (Or.inr ⟨k, h4, hk, ?_⟩)⟩⟩
    rw [show (e - s).toNat = xl1 k by omega, ← fw]
    exact (wv_cg _ (fun j hj => (hv.mp z j (by omega)).2)).symm
  have nxt0 : ∀ c : Int, m < xl1 k → ((c = 1 ∧ ¬ v6 = 0 ∧ s + m < e ∧ zA σ 10 0 (s + m) = xch 1 v7) ∨ (c = 0 ∧ (v6 = 0 ∨ ¬ s + m < e ∨ ¬ zA σ 10 0 (s + m) = xch 1 v7))) → wpX9_ordinal_S1_102 K s e v4 v5 v7 c σ Q := by
    intro c q hcc
    unfold wpX9_ordinal_S1_102 wpX9_ordinal_S1_107
    refine ih _ _ _ _ _ ⟨rfl, k, m + 1, h4, by omega, by omega, Or.inl ⟨hk, by omega, by omega, ?_⟩, hn⟩ (by omega)
    rcases hcc with ⟨c1, c2, c3, c4⟩ | ⟨c1, c2⟩
    · refine ⟨fun _ j hj => ?_, fun _ => by omega⟩
      by_cases qj : j = m
      · rw [qj]; refine ⟨c3, c4.trans ?_⟩; rw [h7]; congr 1
      · exact hv.mp c2 j (by omega)
    · refine ⟨fun z => absurd c1 z, fun z => ?_⟩
      exfalso
      rcases c2 with c2 | c2 | c2
      · exact absurd c2 (hv.mpr (fun j hj => z j (by omega)))
      · exact c2 (z m (by omega)).1
      · refine c2 ((z m (by omega)).2.trans ?_); rw [h7]; congr 1
  unfold wpX9_ordinal_S1_101
  refine ⟨by omega, by decide, fun a => absurd a (by omega), fun a => c_len1 ⟨by decide, fun b => end0 ?_, fun b => c_chr1 (by omega) ?_⟩⟩
  · by_cases q : m < xl1 k
    · exact absurd (by omega) (m2 q).1
    · omega
  have hbd : 0 ≤ zby 1 v7 % 256 % 65536 ∧ zby 1 v7 % 256 % 65536 ≤ 65535 := by omega
  refine ⟨by omega, fun c => ?_, fun c => end0 ?_⟩
  · have q : m < xl1 k := by
      by_cases q : m < xl1 k
      · exact q
      · exfalso
        rcases m3 (by omega) with z | z
        · omega
        · rw [← h7] at z; exact c z
    refine ⟨by omega, fun z => nxt0 0 q (Or.inr ⟨rfl, Or.inl z⟩), fun z => ⟨by omega, by omega, fun y => nxt0 0 q (Or.inr ⟨rfl, Or.inr (Or.inl (by omega))⟩), fun y => ⟨by omega, c_chr1 (by omega) ⟨?_, by omega, fun x => nxt0 0 q (Or.inr ⟨rfl, Or.inr (Or.inr (by rw [← h5]; exact x))⟩), fun x => nxt0 1 q (Or.inl ⟨rfl, z, by omega, by rw [← h5]; exact x⟩)⟩⟩⟩⟩
    have := hX.2.1 (s + v5) (by omega) (by omega)
    omega
  · by_cases q : m < xl1 k
    · exfalso; refine (m2 q).2.1 ?_; rw [← h7]; exact c
    · omega
def xb2 (k : Nat) : Nat := ([0, 3, 6, 9, 12] : List Nat).getD k 0
def xl2 (k : Nat) : Nat := xb2 (k + 1) - 1 - xb2 k
theorem x_Fa2 : ∀ k : Nat, k < 4 → xl2 k ≤ 6 ∧ xb2 (k + 1) = xb2 k + xl2 k + 1 ∧ wv (xch 2) (xb2 k : Nat) (xl2 k) = zwords ((8 + k : Nat) : Int) := by decide +kernel
def xm2 (k m : Nat) : Bool := decide (xb2 k + m ≤ 11) && (decide (xb2 k + m ≠ 11) && decide (xch 2 ((xb2 k + m : Nat) : Int) ≠ 32) && decide (0 < xch 2 ((xb2 k + m : Nat) : Int)) && decide (xch 2 ((xb2 k + m : Nat) : Int) < 256) || decide (xl2 k ≤ m)) && (decide (xb2 k + m = 11) || decide (xch 2 ((xb2 k + m : Nat) : Int) = 32) || decide (m < xl2 k))
theorem x_Fb2 : ∀ k : Nat, k < 4 → ∀ m : Nat, m < 7 → (decide (xl2 k < m) || xm2 k m) = true := by decide +kernel
theorem x_F2 (k : Nat) (hk : k < 4) : xl2 k ≤ 6 ∧ xb2 (k + 1) = xb2 k + xl2 k + 1 ∧ wv (xch 2) (xb2 k : Nat) (xl2 k) = zwords ((8 + k : Nat) : Int) ∧ ∀ m : Nat, m < 7 → m ≤ xl2 k → xb2 k + m ≤ 11 ∧ (m < xl2 k → xb2 k + m ≠ 11 ∧ xch 2 ((xb2 k + m : Nat) : Int) ≠ 32 ∧ 0 < xch 2 ((xb2 k + m : Nat) : Int) ∧ xch 2 ((xb2 k + m : Nat) : Int) < 256) ∧ (m = xl2 k → xb2 k + m = 11 ∨ xch 2 ((xb2 k + m : Nat) : Int) = 32) := by
  obtain ⟨a, b, c⟩ := x_Fa2 k hk
  refine ⟨a, b, c, fun m hm hl => ?_⟩
  have d := x_Fb2 k hk m hm
  unfold xm2 at d
  simp only [Bool.or_eq_true, Bool.and_eq_true, decide_eq_true_eq] at d
  omega
theorem x_ordinal2 {σ : ZS} {s e : Int} {Q : Int → ZS → Prop} (hX : TX σ) (hb : 0 ≤ s ∧ s ≤ e ∧ e ≤ 480) (hp : ∀ j : Int, s ≤ j → j < e → 0 < zA σ 10 0 j) (hQ : ∀ x : Int, ((x = -1 ∧ ∀ k : Nat, k < 4 → zwords ((8 + k : Nat) : Int) ≠ wv (zA σ 10 0) s (e - s).toNat) ∨ (∃ k : Nat, x = k ∧ k < 4 ∧ zwords ((8 + k : Nat) : Int) = wv (zA σ 10 0) s (e - s).toNat)) → Q x σ) : wpX9_ordinal_S2 s e σ Q := by
  have hh : ∀ n : Nat, s + n ≤ e → ∀ j : Nat, j < n → 0 < zA σ 10 0 (s + j) ∧ zA σ 10 0 (s + j) < 256 := fun n hn j hj => by
    have := hp (s + j) (by omega) (by omega)
    have := hX.2.1 (s + j) (by omega) (by omega)
    omega
  unfold wpX9_ordinal_S2 wpX9_ordinal_S2_12
  refine lfp4_ind (fun _ _ _ v _ => (12 - v).toNat) (fun v4 v5 v6 v7 τ => τ = σ ∧ ∃ k m : Nat, v4 = k ∧ v5 = m ∧ v7 = ((xb2 k + m : Nat) : Int) ∧ ((k < 4 ∧ m ≤ xl2 k ∧ (0 ≤ v6 ∧ v6 ≤ 1) ∧ (¬ v6 = 0 ↔ ∀ j : Nat, j < m → s + j < e ∧ zA σ 10 0 (s + j) = xch 2 ((xb2 k : Nat) + j))) ∨ (k = 4 ∧ m = 0)) ∧ ∀ k' : Nat, k' < k → zwords ((8 + k' : Nat) : Int) ≠ wv (zA σ 10 0) s (e - s).toNat) (fun K v4 v5 v6 v7 τ hI ih => ?_) ⟨rfl, 0, 0, rfl, rfl, rfl, Or.inl ⟨by decide, Nat.zero_le _, by decide, fun _ j hj => absurd hj (Nat.not_lt_zero j), fun _ => by decide⟩, fun k' hk => absurd hk (Nat.not_lt_zero k')⟩
  obtain ⟨e0, k, m, h4, h5, h7, hc, hn⟩ := hI
  rw [e0]
  unfold wpbX9_ordinal_S2_12
  refine c_len2 ?_
  rcases hc with ⟨hk, hm, h6, hv⟩ | ⟨hk, hm⟩
  rotate_left
  · have e7 : v7 = 12 := by rw [h7, hk, hm]; rfl
    rw [e7]
    exact ⟨by decide, by decide, fun _ => hQ _ (Or.inl ⟨rfl, fun k' h' => hn k' (by omega)⟩), fun a => absurd (by decide) a⟩
  obtain ⟨f6, fb, fw, fm⟩ := x_F2 k hk
  obtain ⟨m1, m2, m3⟩ := fm m (by omega) hm
  have end0 : m = xl2 k → wpX9_ordinal_S2_41 K s e v4 v5 v6 v7 σ Q := by
    intro q
    have nx : (v6 = 0 ∨ ¬ s + v5 = e) → K (v4 + 1) 0 1 (v7 + 1) σ := by
      intro hz
      have hne : zwords ((8 + k : Nat) : Int) ≠ wv (zA σ 10 0) s (e - s).toNat := by
        intro ee
        rw [← fw] at ee
        obtain ⟨en, ej⟩ := wv_inj (xl2 k) (e - s).toNat (fun j hj => ((fm j (by omega) (by omega)).2.1 hj).2.2) (hh (e - s).toNat (by omega)) ee
        rcases hz with hz | hz
        · exact absurd hz (hv.mpr (fun j hj => ⟨by omega, (ej j (by omega)).symm⟩))
        · exact hz (by omega)
      refine ih _ _ _ _ _ ⟨rfl, k + 1, 0, by omega, rfl, by omega, ?_, fun k' hk' => ?_⟩ (by omega)
      · by_cases qk : k + 1 < 4
        · exact Or.inl ⟨qk, Nat.zero_le _, by decide, fun _ j hj => absurd hj (Nat.not_lt_zero j), fun _ => by decide⟩
        · exact Or.inr ⟨by omega, rfl⟩
      · by_cases qk : k' = k
        · rw [qk]; exact hne
        · exact hn k' (by omega)
    unfold wpX9_ordinal_S2_41 wpX9_ordinal_S2_57 wpX9_ordinal_S2_107
    refine ⟨by omega, fun z => nx (Or.inl z), fun z => ⟨by omega, by omega, fun y => nx (Or.inr y), fun y => hQ _ (Or.inr ⟨k, h4, hk, ?_⟩)⟩⟩
    rw [show (e - s).toNat = xl2 k by omega, ← fw]
    exact (wv_cg _ (fun j hj => (hv.mp z j (by omega)).2)).symm
  have nxt0 : ∀ c : Int, m < xl2 k → ((c = 1 ∧ ¬ v6 = 0 ∧ s + m < e ∧ zA σ 10 0 (s + m) = xch 2 v7) ∨ (c = 0 ∧ (v6 = 0 ∨ ¬ s + m < e ∨ ¬ zA σ 10 0 (s + m) = xch 2 v7))) → wpX9_ordinal_S2_102 K s e v4 v5 v7 c σ Q := by
    intro c q hcc
    unfold wpX9_ordinal_S2_102 wpX9_ordinal_S2_107
    refine ih _ _ _ _ _ ⟨rfl, k, m + 1, h4, by omega, by omega, Or.inl ⟨hk, by omega, by omega, ?_⟩, hn⟩ (by omega)
    rcases hcc with ⟨c1, c2, c3, c4⟩ | ⟨c1, c2⟩
    · refine ⟨fun _ j hj => ?_, fun _ => by omega⟩
      by_cases qj : j = m
      · rw [qj]; refine ⟨c3, c4.trans ?_⟩; rw [h7]; congr 1
      · exact hv.mp c2 j (by omega)
    · refine ⟨fun z => absurd c1 z, fun z => ?_⟩
      exfalso
      rcases c2 with c2 | c2 | c2
      · exact absurd c2 (hv.mpr (fun j hj => z j (by omega)))
      · exact c2 (z m (by omega)).1
      · refine c2 ((z m (by omega)).2.trans ?_); rw [h7]; congr 1
  unfold wpX9_ordinal_S2_101
  refine ⟨by omega, by decide, fun a => absurd a (by omega), fun a => c_len2 ⟨by decide, fun b => end0 ?_, fun b => c_chr2 (by omega) ?_⟩⟩
  · by_cases q : m < xl2 k
    · exact absurd (by omega) (m2 q).1
    · omega
  have hbd : 0 ≤ zby 2 v7 % 256 % 65536 ∧ zby 2 v7 % 256 % 65536 ≤ 65535 := by omega
  refine ⟨by omega, fun c => ?_, fun c => end0 ?_⟩
  · have q : m < xl2 k := by
      by_cases q : m < xl2 k
      · exact q
      · exfalso
        rcases m3 (by omega) with z | z
        · omega
        · rw [← h7] at z; exact c z
    refine ⟨by omega, fun z => nxt0 0 q (Or.inr ⟨rfl, Or.inl z⟩), fun z => ⟨by omega, by omega, fun y => nxt0 0 q (Or.inr ⟨rfl, Or.inr (Or.inl (by omega))⟩), fun y => ⟨by omega, c_chr2 (by omega) ⟨?_, by omega, fun x => nxt0 0 q (Or.inr ⟨rfl, Or.inr (Or.inr (by rw [← h5]; exact x))⟩), fun x => nxt0 1 q (Or.inl ⟨rfl, z, by omega, by rw [← h5]; exact x⟩)⟩⟩⟩⟩
    have := hX.2.1 (s + v5) (by omega) (by omega)
    omega
  · by_cases q : m < xl2 k
    · exfalso; refine (m2 q).2.1 ?_; rw [← h7]; exact c
    · omega
def xb3 (k : Nat) : Nat := ([0, 4, 11, 18, 23, 28, 34, 38, 42, 45, 49, 53, 57, 61, 65, 69, 74, 78, 82, 86, 90, 94, 98, 102, 105, 109, 112, 116, 119, 123, 128, 133, 139, 143, 148, 152, 156] : List Nat).getD k 0
def xl3 (k : Nat) : Nat := xb3 (k + 1) - 1 - xb3 k
theorem x_Fa3 : ∀ k : Nat, k < 36 → xl3 k ≤ 6 ∧ xb3 (k + 1) = xb3 k + xl3 k + 1 ∧ wv (xch 3) (xb3 k : Nat) (xl3 k) = zwords ((12 + k : Nat) : Int) := by decide +kernel
def xm3 (k m : Nat) : Bool := decide (xb3 k + m ≤ 155) && (decide (xb3 k + m ≠ 155) && decide (xch 3 ((xb3 k + m : Nat) : Int) ≠ 32) && decide (0 < xch 3 ((xb3 k + m : Nat) : Int)) && decide (xch 3 ((xb3 k + m : Nat) : Int) < 256) || decide (xl3 k ≤ m)) && (decide (xb3 k + m = 155) || decide (xch 3 ((xb3 k + m : Nat) : Int) = 32) || decide (m < xl3 k))
theorem x_Fb3 : ∀ k : Nat, k < 36 → ∀ m : Nat, m < 7 → (decide (xl3 k < m) || xm3 k m) = true := by decide +kernel
theorem x_F3 (k : Nat) (hk : k < 36) : xl3 k ≤ 6 ∧ xb3 (k + 1) = xb3 k + xl3 k + 1 ∧ wv (xch 3) (xb3 k : Nat) (xl3 k) = zwords ((12 + k : Nat) : Int) ∧ ∀ m : Nat, m < 7 → m ≤ xl3 k → xb3 k + m ≤ 155 ∧ (m < xl3 k → xb3 k + m ≠ 155 ∧ xch 3 ((xb3 k + m : Nat) : Int) ≠ 32 ∧ 0 < xch 3 ((xb3 k + m : Nat) : Int) ∧ xch 3 ((xb3 k + m : Nat) : Int) < 256) ∧ (m = xl3 k → xb3 k + m = 155 ∨ xch 3 ((xb3 k + m : Nat) : Int) = 32) := by
  obtain ⟨a, b, c⟩ := x_Fa3 k hk
  refine ⟨a, b, c, fun m hm hl => ?_⟩
  have d := x_Fb3 k hk m hm
  unfold xm3 at d
  simp only [Bool.or_eq_true, Bool.and_eq_true, decide_eq_true_eq] at d
  omega
theorem x_ordinal3 {σ : ZS} {s e : Int} {Q : Int → ZS → Prop} (hX : TX σ) (hb : 0 ≤ s ∧ s ≤ e ∧ e ≤ 480) (hp : ∀ j : Int, s ≤ j → j < e → 0 < zA σ 10 0 j) (hQ : ∀ x : Int, ((x = -1 ∧ ∀ k : Nat, k < 36 → zwords ((12 + k : Nat) : Int) ≠ wv (zA σ 10 0) s (e - s).toNat) ∨ (∃ k : Nat, x = k ∧ k < 36 ∧ zwords ((12 + k : Nat) : Int) = wv (zA σ 10 0) s (e - s).toNat)) → Q x σ) : wpX9_ordinal_S3 s e σ Q := by
  have hh : ∀ n : Nat, s + n ≤ e → ∀ j : Nat, j < n → 0 < zA σ 10 0 (s + j) ∧ zA σ 10 0 (s + j) < 256 := fun n hn j hj => by
    have := hp (s + j) (by omega) (by omega)
    have := hX.2.1 (s + j) (by omega) (by omega)
    omega
  unfold wpX9_ordinal_S3 wpX9_ordinal_S3_12
  refine lfp4_ind (fun _ _ _ v _ => (156 - v).toNat) (fun v4 v5 v6 v7 τ => τ = σ ∧ ∃ k m : Nat, v4 = k ∧ v5 = m ∧ v7 = ((xb3 k + m : Nat) : Int) ∧ ((k < 36 ∧ m ≤ xl3 k ∧ (0 ≤ v6 ∧ v6 ≤ 1) ∧ (¬ v6 = 0 ↔ ∀ j : Nat, j < m → s + j < e ∧ zA σ 10 0 (s + j) = xch 3 ((xb3 k : Nat) + j))) ∨ (k = 36 ∧ m = 0)) ∧ ∀ k' : Nat, k' < k → zwords ((12 + k' : Nat) : Int) ≠ wv (zA σ 10 0) s (e - s).toNat) (fun K v4 v5 v6 v7 τ hI ih => ?_) ⟨rfl, 0, 0, rfl, rfl, rfl, Or.inl ⟨by decide, Nat.zero_le _, by decide, fun _ j hj => absurd hj (Nat.not_lt_zero j), fun _ => by decide⟩, fun k' hk => absurd hk (Nat.not_lt_zero k')⟩
  obtain ⟨e0, k, m, h4, h5, h7, hc, hn⟩ := hI
  rw [e0]
  unfold wpbX9_ordinal_S3_12
  refine c_len3 ?_
  rcases hc with ⟨hk, hm, h6, hv⟩ | ⟨hk, hm⟩
  rotate_left
  · have e7 : v7 = 156 := by rw [h7, hk, hm]; rfl
    rw [e7]
    exact ⟨by decide, by decide, fun _ => hQ _ (Or.inl ⟨rfl, fun k' h' => hn k' (by omega)⟩), fun a => absurd (by decide) a⟩
  obtain ⟨f6, fb, fw, fm⟩ := x_F3 k hk
  obtain ⟨m1, m2, m3⟩ := fm m (by omega) hm
  have end0 : m = xl3 k → wpX9_ordinal_S3_41 K s e v4 v5 v6 v7 σ Q := by
    intro q
    have nx : (v6 = 0 ∨ ¬ s + v5 = e) → K (v4 + 1) 0 1 (v7 + 1) σ := by
      intro hz
      have hne : zwords ((12 + k : Nat) : Int) ≠ wv (zA σ 10 0) s (e - s).toNat := by
        intro ee
        rw [← fw] at ee
        obtain ⟨en, ej⟩ := wv_inj (xl3 k) (e - s).toNat (fun j hj => ((fm j (by omega) (by omega)).2.1 hj).2.2) (hh (e - s).toNat (by omega)) ee
        rcases hz with hz | hz
        · exact absurd hz (hv.mpr (fun j hj => ⟨by omega, (ej j (by omega)).symm⟩))
        · exact hz (by omega)
      refine ih _ _ _ _ _ ⟨rfl, k + 1, 0, by omega, rfl, by omega, ?_, fun k' hk' => ?_⟩ (by omega)
      · by_cases qk : k + 1 < 36
        · exact Or.inl ⟨qk, Nat.zero_le _, by decide, fun _ j hj => absurd hj (Nat.not_lt_zero j), fun _ => by decide⟩
        · exact Or.inr ⟨by omega, rfl⟩
      · by_cases qk : k' = k
        · rw [qk]; exact hne
        · exact hn k' (by omega)
    unfold wpX9_ordinal_S3_41 wpX9_ordinal_S3_57 wpX9_ordinal_S3_107
    refine ⟨by omega, fun z => nx (Or.inl z), fun z => ⟨by omega, by omega, fun y => nx (Or.inr y), fun y => hQ _ (Or.inr ⟨k, h4, hk, ?_⟩)⟩⟩
    rw [show (e - s).toNat = xl3 k by omega, ← fw]
    exact (wv_cg _ (fun j hj => (hv.mp z j (by omega)).2)).symm
  have nxt0 : ∀ c : Int, m < xl3 k → ((c = 1 ∧ ¬ v6 = 0 ∧ s + m < e ∧ zA σ 10 0 (s + m) = xch 3 v7) ∨ (c = 0 ∧ (v6 = 0 ∨ ¬ s + m < e ∨ ¬ zA σ 10 0 (s + m) = xch 3 v7))) → wpX9_ordinal_S3_102 K s e v4 v5 v7 c σ Q := by
    intro c q hcc
    unfold wpX9_ordinal_S3_102 wpX9_ordinal_S3_107
    refine ih _ _ _ _ _ ⟨rfl, k, m + 1, h4, by omega, by omega, Or.inl ⟨hk, by omega, by omega, ?_⟩, hn⟩ (by omega)
    rcases hcc with ⟨c1, c2, c3, c4⟩ | ⟨c1, c2⟩
    · refine ⟨fun _ j hj => ?_, fun _ => by omega⟩
      by_cases qj : j = m
      · rw [qj]; refine ⟨c3, c4.trans ?_⟩; rw [h7]; congr 1
      · exact hv.mp c2 j (by omega)
    · refine ⟨fun z => absurd c1 z, fun z => ?_⟩
      exfalso
      rcases c2 with c2 | c2 | c2
      · exact absurd c2 (hv.mpr (fun j hj => z j (by omega)))
      · exact c2 (z m (by omega)).1
      · refine c2 ((z m (by omega)).2.trans ?_); rw [h7]; congr 1
  unfold wpX9_ordinal_S3_101
  refine ⟨by omega, by decide, fun a => absurd a (by omega), fun a => c_len3 ⟨by decide, fun b => end0 ?_, fun b => c_chr3 (by omega) ?_⟩⟩
  · by_cases q : m < xl3 k
    · exact absurd (by omega) (m2 q).1
    · omega
  have hbd : 0 ≤ zby 3 v7 % 256 % 65536 ∧ zby 3 v7 % 256 % 65536 ≤ 65535 := by omega
  refine ⟨by omega, fun c => ?_, fun c => end0 ?_⟩
  · have q : m < xl3 k := by
      by_cases q : m < xl3 k
      · exact q
      · exfalso
        rcases m3 (by omega) with z | z
        · omega
        · rw [← h7] at z; exact c z
    refine ⟨by omega, fun z => nxt0 0 q (Or.inr ⟨rfl, Or.inl z⟩), fun z => ⟨by omega, by omega, fun y => nxt0 0 q (Or.inr ⟨rfl, Or.inr (Or.inl (by omega))⟩), fun y => ⟨by omega, c_chr3 (by omega) ⟨?_, by omega, fun x => nxt0 0 q (Or.inr ⟨rfl, Or.inr (Or.inr (by rw [← h5]; exact x))⟩), fun x => nxt0 1 q (Or.inl ⟨rfl, z, by omega, by rw [← h5]; exact x⟩)⟩⟩⟩⟩
    have := hX.2.1 (s + v5) (by omega) (by omega)
    omega
  · by_cases q : m < xl3 k
    · exfalso; refine (m2 q).2.1 ?_; rw [← h7]; exact c
    · omega
theorem x_indexOf {σ : ZS} {c : Int} {Q : Int → ZS → Prop} (hc : 0 ≤ c ∧ c ≤ 126) (hQ : ∀ x : Int, (-1 ≤ x ∧ x ≤ 8) → (0 ≤ x ↔ cS c) → Q x σ) : wpJ0_indexOf_0f7a4_S0 c σ Q := by
  have m0 : max (0 : Int) 0 = 0 := by decide
  have m8 : min (8 : Int) 8 = 8 := by decide
  have hz : ∀ v : Nat, v < 8 → zby 0 (v : Int) = ([58, 59, 44, 91, 93, 43, 45, 64] : List Int).getD v 0 := by decide +kernel
  unfold wpJ0_indexOf_0f7a4_S0 wpJ0_indexOf_7cf53_S0 wpJ0_indexOf_7cf53_S0_36
  refine c_lat0 ⟨by decide, fun a => absurd a (by decide), fun _ => c_len0 ?_⟩
  unfold wpJ1_indexOf_4cfef_S0 wpJ1_canEncode_9a6ad wpJ1_canEncode_9a6ad_15 wpJ1_canEncode_9a6ad_16
  rw [m0, m8]
  refine ⟨by omega, fun a => absurd a (by omega), fun _ => ⟨fun a => absurd a (by omega), fun _ => ⟨by decide, by decide, fun _ => ⟨by decide, by decide, by decide, by decide, fun _ => ?_, fun a => absurd (by decide) a⟩, fun a => absurd a (by decide)⟩⟩⟩
  unfold wpJ1_indexOfChar_4cfef_S0 wpJ1_indexOfChar_4cfef_S0_7
  refine lfp1_ind (fun v _ => (9 - v).toNat) (fun v τ => τ = σ ∧ (0 ≤ v ∧ v ≤ 8) ∧ ∀ j : Nat, (j : Int) < v → ¬ zby 0 j = c) (fun K v τ hI ih => ?_) ⟨rfl, by decide, fun j hj => absurd hj (by omega)⟩
  obtain ⟨e0, h, hn⟩ := hI
  rw [e0]
  unfold wpbJ1_indexOfChar_4cfef_S0_7
  refine ⟨by omega, by decide, fun a => hQ _ (by decide) ⟨fun q => absurd q (by decide), fun q => ?_⟩, fun a => ⟨by omega, zby_bd _ _, by omega, fun b => ih _ _ ⟨rfl, by omega, fun j hj => ?_⟩ (by omega), fun b => hQ _ (by omega) ⟨fun _ => ?_, fun _ => by omega⟩⟩⟩
  · exfalso
    have g : ∀ j : Nat, j < 8 → ¬ ([58, 59, 44, 91, 93, 43, 45, 64] : List Int).getD j 0 = c := fun j hj => by rw [← hz j hj]; exact hn j (by omega)
    have g0 := g 0 (by decide); have g1 := g 1 (by decide); have g2 := g 2 (by decide); have g3 := g 3 (by decide); have g4 := g 4 (by decide); have g5 := g 5 (by decide); have g6 := g 6 (by decide); have g7 := g 7 (by decide)
    simp only [List.getD_cons_zero, List.getD_cons_succ] at g0 g1 g2 g3 g4 g5 g6 g7
    unfold cS at q
    omega
  · by_cases q : (j : Int) = v
    · rw [q]; intro z; exact b (by omega)
    · exact hn j (by omega)
  · have hv := hz v.toNat (by omega)
    rw [show ((v.toNat : Nat) : Int) = v by omega, b] at hv
    unfold cS
    have : v.toNat = 0 ∨ v.toNat = 1 ∨ v.toNat = 2 ∨ v.toNat = 3 ∨ v.toNat = 4 ∨ v.toNat = 5 ∨ v.toNat = 6 ∨ v.toNat = 7 := by omega
    rcases this with w | w | w | w | w | w | w | w <;> (rw [w] at hv; simp only [List.getD_cons_zero, List.getD_cons_succ] at hv; omega)
/-! X: the tokens of the class, exactly -/
theorem zw_inj : ∀ i : Nat, i < 48 → ∀ j : Nat, j < 48 → zwords (i : Int) = zwords (j : Int) → i = j := by decide +kernel
theorem cd_of {w : Int} {k : Nat} (hk : k < 48) (h : zwords (k : Int) = w) : cdOf zwords w k := by
  refine Or.inr ⟨by omega, by omega, h, fun j a b e => ?_⟩
  have := zw_inj k hk j.toNat (by omega) (by rw [h, ← e, show ((j.toNat : Nat) : Int) = j by omega])
  omega
theorem cd_no {w : Int} (h1 : ∀ k : Nat, k < 8 → zwords ((0 + k : Nat) : Int) ≠ w) (h2 : ∀ k : Nat, k < 4 → zwords ((8 + k : Nat) : Int) ≠ w) (h3 : ∀ k : Nat, k < 36 → zwords ((12 + k : Nat) : Int) ≠ w) : cdOf zwords w (-1) := by
  refine Or.inl ⟨rfl, fun k a b e => ?_⟩
  by_cases q : k < 8
  · refine h1 k.toNat (by omega) ?_; rw [← e]; congr 1; omega
  by_cases q2 : k < 12
  · refine h2 (k - 8).toNat (by omega) ?_; rw [← e]; congr 1; omega
  · refine h3 (k - 12).toNat (by omega) ?_; rw [← e]; congr 1; omega
/-- a code is one -/
theorem cd_u {h : Int → Int} {w c d : Int} (a : cdOf h w c) (b : cdOf h w d) : c = d := by
  rcases a with ⟨a1, a2⟩ | ⟨a1, a2, a3, a4⟩ <;> rcases b with ⟨b1, b2⟩ | ⟨b1, b2, b3, b4⟩
  · omega
  · exact absurd b3 (a2 d b1 b2)
  · exact absurd a3 (b2 c a1 a2)
  · by_cases q : c < d
    · exact absurd b3 (a4 d q b2)
    by_cases q2 : d < c
    · exact absurd a3 (b4 c q2 a2)
    · omega
/-- a run ends at one place -/
theorem isRun.u {p : Int → Prop} {L a s t : Int} (h : isRun p L a s) (k : isRun p L a t) : s = t := by
  obtain ⟨h1, h2, h3, h4⟩ := h
  obtain ⟨k1, k2, k3, k4⟩ := k
  by_cases q : s < t
  · rcases h4 with h4 | h4
    · omega
    · exact absurd (k3 s h1 q) h4
  by_cases q2 : t < s
  · rcases k4 with k4 | k4
    · omega
    · exact absurd (h3 t k1 q2) k4
  · omega
/-- what number a row of digits is -/
def xNum (n t v : Int) : Prop := (n ≤ 65535 ∧ t = 2 ∧ v = n) ∨ (65535 < n ∧ t = 1)
/-- what a word of at most six signs is, by its code -/
def xWrd (c t v w : Int) (nw : Int → Int) : Prop := (c = -1 ∧ t = 3 ∧ nw v = w) ∨ (0 ≤ c ∧ c < 8 ∧ t = 4 ∧ v = c) ∨ (8 ≤ c ∧ c < 12 ∧ t = 5 ∧ v = c - 8) ∨ (12 ≤ c ∧ c < 48 ∧ t = 6 ∧ v = c - 12)
/-- the token that begins at p and ends at e -/
def LXm (h : Int → Int) (L : Int) (nw : Int → Int) (p e t v : Int) : Prop :=
  (p = L ∧ e = L ∧ t = 0) ∨
  (p < L ∧ cL (h p) ∧ isRun (fun j => cL (h j) ∨ cD (h j)) L (p + 1) e ∧ ((6 < e - p ∧ t = 1) ∨ (e - p ≤ 6 ∧ ∃ c : Int, cdOf zwords (wv h p (e - p).toNat) c ∧ xWrd c t v (pkv h p (e - p).toNat) nw))) ∨
  (p < L ∧ cD (h p) ∧ isRun (fun j => cD (h j)) L (p + 1) e ∧ xNum (nv h p (e - p - 1).toNat) t v) ∨
  (p < L ∧ ¬ cL (h p) ∧ ¬ cD (h p) ∧ h p ≠ 32 ∧ e = p + 1 ∧ ((cS (h p) ∧ t = h p) ∨ (¬ cS (h p) ∧ t = 1)))
theorem LXm.mo {h : Int → Int} {L : Int} {nw nw' : Int → Int} {p e t v : Int} (k : LXm h L nw p e t v) (hn : t = 3 → nw' v = nw v) : LXm h L nw' p e t v := by
  rcases k with k | ⟨k1, k2, k3, k4⟩ | k | k
  · exact Or.inl k
  · refine Or.inr (Or.inl ⟨k1, k2, k3, ?_⟩)
    rcases k4 with k4 | ⟨k4, c, k5, k6⟩
    · exact Or.inl k4
    · refine Or.inr ⟨k4, c, k5, ?_⟩
      rcases k6 with ⟨a, b, d⟩ | k6
      · exact Or.inl ⟨a, b, by rw [hn b]; exact d⟩
      · exact Or.inr k6
  · exact Or.inr (Or.inr (Or.inl k))
  · exact Or.inr (Or.inr (Or.inr k))
/-- what putting a token does -/
def xPut (σ τ : ZS) (t v p : Int) : Prop := zI τ 12 3 = zI σ 12 3 + 1 ∧ zA τ 12 0 = zu (zA σ 12 0) (zI σ 12 3) t ∧ zA τ 12 1 = zu (zA σ 12 1) (zI σ 12 3) v ∧ zA τ 12 2 = zu (zA σ 12 2) (zI σ 12 3) p
theorem x_put {σ : ZS} {t v p : Int} {Q : ZS → Prop} (hT : TI σ) (hk : TK (zI σ 11 5) t v p) (hs : zI σ 12 3 ≤ 480) (hQ : ∀ τ : ZS, TI τ → kp [12] σ τ → xPut σ τ t v p → Q τ) : wpX9_put t v p σ Q := by
  obtain ⟨hz, hi⟩ := hT
  unfold wpX9_put wpX9_put_52
  refine ⟨by omega, fun a => absurd a (by omega), fun _ => ⟨by omega, hQ _ ⟨?_, fun i i0 i1 => ?_⟩ ((((kp.rf.ta (by decide)).ta (by decide)).ta (by decide)).ti (by decide)) ⟨rfl, rfl, rfl, rfl⟩⟩⟩
  · show 0 ≤ zI σ 12 3 + 1 ∧ zI σ 12 3 + 1 ≤ 481
    omega
  · show TK (zI σ 11 5) (zu (zA σ 12 0) (zI σ 12 3) t i) (zu (zA σ 12 1) (zI σ 12 3) v i) (zu (zA σ 12 2) (zI σ 12 3) p i)
    have i1' : i < zI σ 12 3 + 1 := i1
    by_cases e : i = zI σ 12 3
    · rw [e, pu_eq, pu_eq, pu_eq]; exact hk
    · rw [pu_ne e, pu_ne e, pu_ne e]; exact hi i i0 (by omega)
/-- the number of a name: an old one's, or the next -/
def xNam (σ τ : ZS) (w x : Int) : Prop := (0 ≤ x ∧ x < zI σ 11 5 ∧ zA σ 11 0 x = w ∧ ob τ 11 = ob σ 11) ∨ (x = zI σ 11 5 ∧ (∀ j : Int, 0 ≤ j → j < zI σ 11 5 → zA σ 11 0 j ≠ w) ∧ zI τ 11 5 = zI σ 11 5 + 1 ∧ zA τ 11 0 = zu (zA σ 11 0) (zI σ 11 5) w ∧ (zI τ 11 5 ≤ 24 → zI τ 11 6 = zI σ 11 6))
theorem x_numberOf {σ : ZS} {w p : Int} {Q : Int → ZS → Prop} (hS : NS σ) (hR : NR σ) (hF : NF σ) (hw : 0 ≤ w ∧ w ≤ 4398046511103) (hp : 0 ≤ p ∧ p ≤ 480) (h9 : zI σ 11 5 ≤ 239) (hQ : ∀ (x : Int) (τ : ZS), NS τ → NR τ → NF τ → kp [11] σ τ → zI σ 11 5 ≤ zI τ 11 5 → (0 ≤ x ∧ x < zI τ 11 5) → xNam σ τ w x → Q x τ) : wpX5_numberOf w p σ Q := by
  obtain ⟨s1, s2, s3⟩ := hS
  have nr : ∀ i : Int, 0 ≤ i → i < 240 → ((0 ≤ zu (zA σ 11 0) (zI σ 11 5) w i ∧ zu (zA σ 11 0) (zI σ 11 5) w i ≤ 4398046511103) ∧ (0 ≤ zu (zA σ 11 1) (zI σ 11 5) 0 i ∧ zu (zA σ 11 1) (zI σ 11 5) 0 i ≤ 3) ∧ (-1 ≤ zu (zA σ 11 2) (zI σ 11 5) (-1) i ∧ zu (zA σ 11 2) (zI σ 11 5) (-1) i ≤ 59) ∧ (0 ≤ zu (zA σ 11 3) (zI σ 11 5) 0 i ∧ zu (zA σ 11 3) (zI σ 11 5) 0 i ≤ 16) ∧ (0 ≤ zu (zA σ 11 4) (zI σ 11 5) 0 i ∧ zu (zA σ 11 4) (zI σ 11 5) 0 i ≤ 20000)) := by
    intro i i0 i1
    by_cases e : i = zI σ 11 5
    · rw [e, pu_eq, pu_eq, pu_eq, pu_eq, pu_eq]; exact ⟨hw, by decide, by decide, by decide, by decide⟩
    · rw [pu_ne e, pu_ne e, pu_ne e, pu_ne e, pu_ne e]; exact hR i i0 i1
  have nf : ∀ i : Int, 0 ≤ i → i < zI σ 11 5 + 1 → zu (zA σ 11 1) (zI σ 11 5) 0 i = 0 ∧ zu (zA σ 11 2) (zI σ 11 5) (-1) i = -1 := by
    intro i i0 i1
    by_cases e : i = zI σ 11 5
    · rw [e, pu_eq, pu_eq]; exact ⟨rfl, rfl⟩
    · rw [pu_ne e, pu_ne e]; exact hF i i0 (by omega)
  unfold wpX5_numberOf wpX5_numberOf_3
  refine lfp1_ind (fun v _ => (240 - v).toNat) (fun v τ => τ = σ ∧ (0 ≤ v ∧ v ≤ zI σ 11 5) ∧ ∀ j : Int, 0 ≤ j → j < v → zA σ 11 0 j ≠ w) (fun K v τ hI ih => ?_) ⟨rfl, by omega, fun j a b => by omega⟩
  obtain ⟨e, v0, hn⟩ := hI
  rw [e]
  unfold wpbX5_numberOf_3 wpX5_numberOf_121
  refine ⟨by omega, by omega, fun a => ⟨fun b => ⟨by omega, by omega, fun c => ?_, fun c => ?_⟩, fun b => by omega⟩, fun a => ⟨by omega, ?_, by omega, fun q => ih _ _ ⟨rfl, by omega, fun j j0 j1 => ?_⟩ (by omega), fun q => hQ _ _ ⟨s1, s2, s3⟩ hR hF kp.rf (Int.le_refl _) (by omega) (Or.inl ⟨by omega, by omega, q, rfl⟩)⟩⟩
  · refine hQ _ _ ⟨?_, s2, ?_⟩ nr nf ((((((kp.rf.ta (by decide)).ta (by decide)).ta (by decide)).ta (by decide)).ta (by decide)).ti (by decide)) ?_ ?_ (Or.inr ⟨?_, fun j j0 j1 => hn j j0 (by omega), rfl, rfl, fun _ => rfl⟩)
    · show 0 ≤ zI σ 11 5 + 1 ∧ zI σ 11 5 + 1 ≤ 240
      omega
    · show 25 ≤ zI σ 11 5 + 1 → 0 ≤ zI σ 11 6
      intro q; exact s3 (by omega)
    · show zI σ 11 5 ≤ zI σ 11 5 + 1
      omega
    · show 0 ≤ zI σ 11 5 + 1 - 1 ∧ zI σ 11 5 + 1 - 1 < zI σ 11 5 + 1
      omega
    · show zI σ 11 5 + 1 - 1 = zI σ 11 5
      omega
  · refine hQ _ _ ⟨?_, ?_, ?_⟩ nr nf (((((((kp.rf.ta (by decide)).ta (by decide)).ta (by decide)).ta (by decide)).ta (by decide)).ti (by decide)).ti (by decide)) ?_ ?_ (Or.inr ⟨?_, fun j j0 j1 => hn j j0 (by omega), rfl, rfl, fun q => absurd (show zI σ 11 5 + 1 ≤ 24 from q) (by omega)⟩)
    · show 0 ≤ zI σ 11 5 + 1 ∧ zI σ 11 5 + 1 ≤ 240
      omega
    · show -1 ≤ p ∧ p ≤ 480
      omega
    · show 25 ≤ zI σ 11 5 + 1 → 0 ≤ p
      intro q; exact hp.1
    · show zI σ 11 5 ≤ zI σ 11 5 + 1
      omega
    · show 0 ≤ zI σ 11 5 + 1 - 1 ∧ zI σ 11 5 + 1 - 1 < zI σ 11 5 + 1
      omega
    · show zI σ 11 5 + 1 - 1 = zI σ 11 5
      omega
  · have := (hR v v0.1 (by omega)).1
    omega
  · by_cases e : j = v
    · rw [e]; exact q
    · exact hn j j0 (by omega)
theorem x_readNumber {σ : ZS} {s L : Int} {Q : Int → ZS → Prop} (hX : TX σ) (hT : TI σ) (hb : 0 ≤ s ∧ s < L ∧ L ≤ 480) (hd : cD (zA σ 10 0 s)) (hs : zI σ 12 3 ≤ 480) (hQ : ∀ (x : Int) (τ : ZS) (t v : Int), TI τ → kp [12] σ τ → isRun (fun j => cD (zA σ 10 0 j)) L (s + 1) x → xNum (nv (zA σ 10 0) s (x - s - 1).toNat) t v → xPut σ τ t v s → Q x τ) : wpX9_readNumber s L σ Q := by
  unfold wpX9_readNumber wpX9_readNumber_6
  have f48 : ∀ v4 v5 : Int, (0 ≤ v4 ∧ v4 ≤ 65536) → isRun (fun j => cD (zA σ 10 0 j)) L (s + 1) v5 → ((nv (zA σ 10 0) s (v5 - s - 1).toNat ≤ 65535 ∧ v4 = nv (zA σ 10 0) s (v5 - s - 1).toNat) ∨ (65535 < nv (zA σ 10 0) s (v5 - s - 1).toNat ∧ v4 = 65536)) → wpX9_readNumber_48 s v4 v5 σ Q := by
    intro v4 v5 h4 h5 h6
    unfold wpX9_readNumber_48 wpX9_readNumber_61
    exact ⟨by omega, fun _ => x_put hT ⟨by decide, h4, by omega, fun q => absurd q (by decide)⟩ hs (fun τ a b c => hQ _ _ 2 v4 a b h5 (Or.inl (by omega)) c), fun _ => x_put hT ⟨by decide, h4, by omega, fun q => absurd q (by decide)⟩ hs (fun τ a b c => hQ _ _ 1 v4 a b h5 (Or.inr (by omega)) c)⟩
  refine lfp2_ind (fun _ v _ => (480 - v).toNat) (fun v4 v5 τ => τ = σ ∧ (0 ≤ v4 ∧ v4 ≤ 65536) ∧ s ≤ v5 ∧ v5 ≤ L ∧ (∀ j : Int, s ≤ j → j < v5 → cD (zA σ 10 0 j)) ∧ ((v5 = s ∧ v4 = 0) ∨ (s < v5 ∧ ((nv (zA σ 10 0) s (v5 - s - 1).toNat ≤ 65535 ∧ v4 = nv (zA σ 10 0) s (v5 - s - 1).toNat) ∨ (65535 < nv (zA σ 10 0) s (v5 - s - 1).toNat ∧ v4 = 65536))))) (fun K v4 v5 τ hI ih => ?_) ⟨rfl, by decide, by omega, by omega, fun j a b => by omega, Or.inl ⟨rfl, rfl⟩⟩
  obtain ⟨e, h4, h5, h6, hr, hn⟩ := hI
  rw [e]
  have fin : (v5 = L ∨ ¬ cD (zA σ 10 0 v5)) → wpX9_readNumber_48 s v4 v5 σ Q := by
    intro hz
    rcases hn with ⟨n1, n2⟩ | ⟨n1, n2⟩
    · exfalso
      rcases hz with hz | hz
      · omega
      · rw [n1] at hz; exact hz hd
    · exact f48 v4 v5 h4 ⟨by omega, h6, fun j a b => hr j (by omega) b, hz⟩ n2
  unfold wpbX9_readNumber_6
  refine ⟨by omega, by omega, fun a => fin (Or.inl (by omega)), fun a => ⟨by omega, ?_⟩⟩
  have hc := hX.2.1 v5 (by omega) (by omega)
  refine c_isDigit (by omega) (fun q => ⟨by decide, fun q' => absurd q' (by decide), fun _ => ?_⟩) (fun q => ⟨by decide, fun _ => fin (Or.inr q), fun q' => absurd rfl q'⟩)
  have q0 := q
  unfold cD at q
  refine ⟨by omega, ih _ _ _ ⟨rfl, by omega, by omega, by omega, fun j j0 j1 => ?_, Or.inr ⟨by omega, ?_⟩⟩ (by omega)⟩
  · by_cases ej : j = v5
    · rw [ej]; exact q0
    · exact hr j j0 (by omega)
  · rcases hn with ⟨n1, n2⟩ | ⟨n1, n2⟩
    · rw [n1, show (s + 1 - s - 1).toNat = 0 by omega]
      show (zA σ 10 0 s - 48 ≤ 65535 ∧ _ = zA σ 10 0 s - 48) ∨ _
      rw [n1] at q
      left; rw [n2]; omega
    · have en : nv (zA σ 10 0) s (v5 + 1 - s - 1).toNat = if nv (zA σ 10 0) s (v5 - s - 1).toNat ≤ 100000 then 10 * nv (zA σ 10 0) s (v5 - s - 1).toNat + zA σ 10 0 v5 - 48 else nv (zA σ 10 0) s (v5 - s - 1).toNat := by
        rw [show (v5 + 1 - s - 1).toNat = (v5 - s - 1).toNat + 1 by omega]
        show (if _ then 10 * _ + zA σ 10 0 (s + 1 + ((v5 - s - 1).toNat : Int)) - 48 else _) = _
        rw [show s + 1 + ((v5 - s - 1).toNat : Int) = v5 by omega]
      rw [en]
      split <;> omega
/-- what reading a word puts -/
def xRW (σ τ : ZS) (h : Int → Int) (s x t v : Int) : Prop := (6 < x - s ∧ t = 1 ∧ ob τ 11 = ob σ 11) ∨ (x - s ≤ 6 ∧ ∃ c : Int, cdOf zwords (wv h s (x - s).toNat) c ∧ ((c = -1 ∧ t = 3 ∧ xNam σ τ (pkv h s (x - s).toNat) v) ∨ (((0 ≤ c ∧ c < 8 ∧ t = 4 ∧ v = c) ∨ (8 ≤ c ∧ c < 12 ∧ t = 5 ∧ v = c - 8) ∨ (12 ≤ c ∧ c < 48 ∧ t = 6 ∧ v = c - 12)) ∧ ob τ 11 = ob σ 11)))
theorem xNam.k {σ τ υ : ZS} {w x : Int} (h : xNam σ τ w x) (e : ob υ 11 = ob τ 11) : xNam σ υ w x := by
  rcases h with ⟨a, b, c, d⟩ | ⟨a, b, c, d, f⟩
  · exact Or.inl ⟨a, b, c, e.trans d⟩
  · exact Or.inr ⟨a, b, (ob_I e 5).trans c, (ob_A e 0).trans d, fun q => by rw [ob_I e 6]; exact f (by rw [← ob_I e 5]; exact q)⟩
theorem x_readWord {σ : ZS} {s L : Int} {Q : Int → ZS → Prop} (hX : TX σ) (hR : RD σ) (hb : 0 ≤ s ∧ s < L ∧ L ≤ 480) (hd : cL (zA σ 10 0 s)) (hs : zI σ 12 3 ≤ 480) (h9 : zI σ 11 5 ≤ 239) (hQ : ∀ (x : Int) (τ : ZS) (t v : Int), RD τ → kp [11, 12] σ τ → isRun (fun j => cL (zA σ 10 0 j) ∨ cD (zA σ 10 0 j)) L (s + 1) x → xRW σ τ (zA σ 10 0) s x t v → xPut σ τ t v s → Q x τ) : wpX9_readWord s L σ Q := by
  obtain ⟨rS, rR, rF, rT⟩ := hR
  unfold wpX9_readWord wpX9_readWord_6
  have f144 : ∀ (v4 v7 v8 : Int) (υ : ZS), isRun (fun j => cL (zA σ 10 0 j) ∨ cD (zA σ 10 0 j)) L (s + 1) v4 → RD υ → kp [11] σ υ → TK (zI υ 11 5) v7 v8 s → (∀ τ : ZS, ob τ 11 = ob υ 11 → xRW σ τ (zA σ 10 0) s v4 v7 v8) → wpX9_readWord_144 s v4 v7 v8 υ Q := by
    intro v4 v7 v8 υ h1 hr hk ht hx
    obtain ⟨uS, uR, uF, uT⟩ := hr
    have e12 := hk 12 (by decide)
    unfold wpX9_readWord_144
    refine x_put uT ht (by rw [ob_I e12 3]; omega) (fun τ a b c => hQ _ _ v7 v8 ⟨uS.k (b 11 (by decide)), uR.k (b 11 (by decide)), uF.k (b 11 (by decide)), a⟩ ((hk.up (by decide)).tr (b.up (by decide))) h1 (hx τ (b 11 (by decide))) ?_)
    unfold xPut at c
    rw [ob_I e12 3, ob_A e12 0, ob_A e12 1, ob_A e12 2] at c
    exact c
  have go : ∀ v4 v5 : Int, isRun (fun j => cL (zA σ 10 0 j) ∨ cD (zA σ 10 0 j)) L (s + 1) v4 → v5 = pkv (zA σ 10 0) s (v4 - s).toNat → wpX9_readWord_52 s v4 v5 σ Q := by
    intro v4 v5 h1 h5
    have hle := h1.2.1
    have hge := h1.1
    have hpos : ∀ j : Int, s ≤ j → j < v4 → 0 < zA σ 10 0 j := fun j j0 j1 => by
      by_cases ej : j = s
      · rw [ej]; unfold cL at hd; omega
      · have := h1.2.2.1 j (by omega) j1
        unfold cL cD at this; omega
    unfold wpX9_readWord_52
    refine ⟨by omega, fun a => ?_, fun a => x_put rT ⟨by decide, by decide, by omega, fun q => absurd q (by decide)⟩ hs (fun τ t1 b c => hQ _ _ 1 0 ⟨rS.k (b 11 (by decide)), rR.k (b 11 (by decide)), rF.k (b 11 (by decide)), t1⟩ (b.up (by decide)) h1 (Or.inl ⟨by omega, rfl, b 11 (by decide)⟩) c)⟩
    have h5' : 0 ≤ v5 ∧ v5 ≤ 4398046511103 := by
      rw [h5]
      exact pkv_6 (by omega) (fun j j0 j1 => by have := hX.2.1 j (by omega) (by omega); omega)
    refine x_ordinal1 hX (by omega) hpos (fun x1 y1 => ?_)
    rcases y1 with ⟨y1, z1⟩ | ⟨k, y1, hk, z1⟩
    rotate_left
    · refine ⟨by omega, fun _ => ?_, fun q => absurd q (by omega)⟩
      unfold wpX9_readWord_104 wpX9_readWord_124
      refine ⟨by omega, fun _ => ⟨by omega, fun _ => f144 _ _ _ _ h1 ⟨rS, rR, rF, rT⟩ kp.rf ⟨by decide, by omega, by omega, fun q => absurd q (by decide)⟩ (fun τ eτ => Or.inr ⟨by omega, ((0 + k : Nat) : Int), cd_of (by omega) z1, Or.inr ⟨Or.inl ⟨by omega, by omega, rfl, by omega⟩, eτ⟩⟩), fun q => absurd q (by omega)⟩, fun q => absurd q (by omega)⟩
    refine ⟨by omega, fun q => absurd q (by omega), fun _ => x_ordinal2 hX (by omega) hpos (fun x2 y2 => ?_)⟩
    unfold wpX9_readWord_104
    rcases y2 with ⟨y2, z2⟩ | ⟨k, y2, hk, z2⟩
    rotate_left
    · refine ⟨by omega, fun _ => ?_, fun q => absurd q (by omega)⟩
      unfold wpX9_readWord_124
      exact ⟨by omega, fun _ => f144 _ _ _ _ h1 ⟨rS, rR, rF, rT⟩ kp.rf ⟨by decide, by omega, by omega, fun q => absurd q (by decide)⟩ (fun τ eτ => Or.inr ⟨by omega, ((8 + k : Nat) : Int), cd_of (by omega) z2, Or.inr ⟨Or.inr (Or.inl ⟨by omega, by omega, rfl, by omega⟩), eτ⟩⟩), fun q => absurd q (by omega)⟩
    refine ⟨by omega, fun q => absurd q (by omega), fun _ => x_ordinal3 hX (by omega) hpos (fun x3 y3 => ?_)⟩
    unfold wpX9_readWord_124
    rcases y3 with ⟨y3, z3⟩ | ⟨k, y3, hk, z3⟩
    rotate_left
    · exact ⟨by omega, fun _ => f144 _ _ _ _ h1 ⟨rS, rR, rF, rT⟩ kp.rf ⟨by decide, by omega, by omega, fun q => absurd q (by decide)⟩ (fun τ eτ => Or.inr ⟨by omega, ((12 + k : Nat) : Int), cd_of (by omega) z3, Or.inr ⟨Or.inr (Or.inr ⟨by omega, by omega, rfl, by omega⟩), eτ⟩⟩), fun q => absurd q (by omega)⟩
    refine ⟨by omega, fun q => absurd q (by omega), fun _ => x_numberOf rS rR rF h5' (by omega) h9 (fun x τ aS aR aF ak an ax ay => ?_)⟩
    have e12 := ak 12 (by decide)
    exact f144 _ _ _ _ h1 ⟨aS, aR, aF, rT.mo e12 an⟩ ak ⟨by decide, by have := aS.1; omega, by omega, fun _ => ax.2⟩ (fun υ eυ => Or.inr ⟨by omega, -1, cd_no z1 z2 z3, Or.inl ⟨rfl, rfl, by rw [← h5]; exact ay.k eυ⟩⟩)
  refine lfp2_ind (fun v _ _ => (480 - v).toNat) (fun v4 v5 τ => τ = σ ∧ v5 = pkv (zA σ 10 0) s (v4 - s).toNat ∧ s ≤ v4 ∧ v4 ≤ L ∧ ∀ j : Int, s ≤ j → j < v4 → cL (zA σ 10 0 j) ∨ cD (zA σ 10 0 j)) (fun K v4 v5 τ hI ih => ?_) ⟨rfl, by rw [Int.sub_self]; rfl, by omega, by omega, fun j a b => by omega⟩
  obtain ⟨e, h5, h4, h6, hr⟩ := hI
  rw [e]
  have f32 : v4 < L → (cL (zA σ 10 0 v4) ∨ cD (zA σ 10 0 v4)) → wpX9_readWord_32 K s L v4 v5 σ Q := by
    intro q q2
    have hc := hX.2.1 v4 (by omega) (by omega)
    unfold wpX9_readWord_32
    refine ⟨by omega, by omega, ih _ _ _ ⟨rfl, ?_, by omega, by omega, fun j j0 j1 => ?_⟩ (by omega)⟩
    · rw [show (v4 + 1 - s).toNat = (v4 - s).toNat + 1 by omega]
      show v5 * 128 + zA σ 10 0 v4 = pkv (zA σ 10 0) s (v4 - s).toNat * 128 + zA σ 10 0 (s + ((v4 - s).toNat : Nat))
      rw [← h5, show s + (((v4 - s).toNat : Nat) : Int) = v4 by omega]
    · by_cases ej : j = v4
      · rw [ej]; exact q2
      · exact hr j j0 (by omega)
  have fin : (v4 = L ∨ ¬ (cL (zA σ 10 0 v4) ∨ cD (zA σ 10 0 v4))) → wpX9_readWord_52 s v4 v5 σ Q := by
    intro hz
    have : s < v4 := by
      rcases hz with hz | hz
      · omega
      · by_cases e5 : v4 = s
        · rw [e5] at hz; exact absurd (Or.inl hd) hz
        · omega
    exact go v4 v5 ⟨by omega, h6, fun j a b => hr j (by omega) b, hz⟩ h5
  unfold wpbX9_readWord_6
  refine ⟨by omega, by omega, fun a => fin (Or.inl (by omega)), fun a => ⟨by omega, ?_⟩⟩
  have hc := hX.2.1 v4 (by omega) (by omega)
  refine c_isLetter (by omega) (fun q => ⟨by decide, fun _ => f32 (by omega) (Or.inl q), fun q' => absurd q' (by decide)⟩) (fun q => ⟨by decide, fun q' => absurd rfl q', fun _ => ?_⟩)
  exact c_isDigit (by omega) (fun q2 => ⟨by decide, fun q' => absurd q' (by decide), fun _ => f32 (by omega) (Or.inr q2)⟩) (fun q2 => ⟨by decide, fun _ => fin (Or.inr (fun z => z.elim q q2)), fun q' => absurd rfl q'⟩)
/-! X: a text's tokens as a whole -/
/-- n tokens of the text h up to L: token i is sought from E i on; M i names stand before it -/
def TKS (σ : ZS) (h : Int → Int) (L n : Int) (E M : Int → Int) : Prop := E 0 = 0 ∧ M 0 = 0 ∧ ∀ i : Int, 0 ≤ i → i < n → isRun (fun j => h j = 32) L (E i) (zA σ 12 2 i) ∧ LXm h L (zA σ 11 0) (zA σ 12 2 i) (E (i + 1)) (zA σ 12 0 i) (zA σ 12 1 i) ∧ 0 ≤ M i ∧ ((zA σ 12 0 i = 3 ∧ ((0 ≤ zA σ 12 1 i ∧ zA σ 12 1 i < M i ∧ M (i + 1) = M i) ∨ (zA σ 12 1 i = M i ∧ M (i + 1) = M i + 1))) ∨ (¬ zA σ 12 0 i = 3 ∧ M (i + 1) = M i))
/-- names are different -/
def NDs (σ : ZS) : Prop := (∀ i j : Int, 0 ≤ i → i < zI σ 11 5 → 0 ≤ j → j < zI σ 11 5 → zA σ 11 0 i = zA σ 11 0 j → i = j) ∧ (zI σ 11 5 ≤ 24 → zI σ 11 6 = -1)
theorem TKS.add {σ τ : ZS} {h : Int → Int} {L : Int} {E M : Int → Int} {p e t v m : Int} (k : TKS σ h L (zI σ 12 3) E M) (hT : TI σ) (hp : xPut σ τ t v p) (hn : ∀ j : Int, 0 ≤ j → j < zI σ 11 5 → zA τ 11 0 j = zA σ 11 0 j) (run : isRun (fun j => h j = 32) L (E (zI σ 12 3)) p) (hx : LXm h L (zA τ 11 0) p e t v) (hM : 0 ≤ M (zI σ 12 3)) (hm : (t = 3 ∧ ((0 ≤ v ∧ v < M (zI σ 12 3) ∧ m = M (zI σ 12 3)) ∨ (v = M (zI σ 12 3) ∧ m = M (zI σ 12 3) + 1))) ∨ (¬ t = 3 ∧ m = M (zI σ 12 3))) : TKS τ h L (zI τ 12 3) (zu E (zI τ 12 3) e) (zu M (zI τ 12 3) m) := by
  obtain ⟨p0, p1, p2, p3⟩ := hp
  obtain ⟨k0, k1, k2⟩ := k
  have hz := hT.1
  have ne : ∀ i : Int, 0 ≤ i → i ≤ zI σ 12 3 → zu E (zI τ 12 3) e i = E i ∧ zu M (zI τ 12 3) m i = M i := fun i _ a => ⟨pu_ne (by omega), pu_ne (by omega)⟩
  refine ⟨by rw [(ne 0 (by omega) (by omega)).1]; exact k0, by rw [(ne 0 (by omega) (by omega)).2]; exact k1, fun i i0 i1 => ?_⟩
  rw [(ne i i0 (by omega)).1, (ne i i0 (by omega)).2, p1, p2, p3]
  by_cases ei : i = zI σ 12 3
  · rw [ei, pu_eq, pu_eq, pu_eq, show zI σ 12 3 + 1 = zI τ 12 3 from p0.symm, pu_eq, pu_eq]
    exact ⟨run, hx, hM, hm⟩
  · rw [pu_ne ei, pu_ne ei, pu_ne ei, (ne (i + 1) (by omega) (by omega)).1, (ne (i + 1) (by omega) (by omega)).2]
    obtain ⟨a, b, c, d⟩ := k2 i i0 (by omega)
    refine ⟨a, b.mo (fun q => ?_), c, d⟩
    have := (hT.2 i i0 (by omega)).2.2.2 q
    have := (hT.2 i i0 (by omega)).2.1
    exact hn _ (by omega) (by omega)
/-- what stands while a text is read up to a -/
def RX (h : Int → Int) (L a : Int) (τ : ZS) : Prop := RD τ ∧ ∃ E M : Int → Int, TKS τ h L (zI τ 12 3) E M ∧ (∀ i : Int, 0 ≤ i → i < zI τ 12 3 → zA τ 12 0 i ≠ 0) ∧ (0 ≤ E (zI τ 12 3) ∧ E (zI τ 12 3) ≤ a) ∧ (∀ j : Int, E (zI τ 12 3) ≤ j → j < a → h j = 32) ∧ M (zI τ 12 3) = zI τ 11 5 ∧ NDs τ ∧ 2 * zI τ 11 5 ≤ E (zI τ 12 3) + 1 ∧ (E (zI τ 12 3) < L → (cL (h (E (zI τ 12 3))) ∨ cD (h (E (zI τ 12 3)))) → 2 * zI τ 11 5 ≤ E (zI τ 12 3))
theorem RX.add {σ τ : ZS} {h : Int → Int} {L a e t v : Int} (hx : RX h L a σ) (hR : RD τ) (ha : a < L) (hb : h a ≠ 32) (ho : ob τ 11 = ob σ 11) (hp : xPut σ τ t v a) (hl : LXm h L (zA τ 11 0) a e t v) (he : a < e) (ht : t ≠ 3) (h0 : t ≠ 0) : RX h L e τ := by
  obtain ⟨hr, E, M, k1, k2, k3, k4, k5, k6, k7, k8⟩ := hx
  obtain ⟨rS, rR, rF, rT⟩ := hr
  have e5 := ob_I ho 5
  have ew := ob_A ho 0
  have hp' := hp
  obtain ⟨p0, p1, p2, p3⟩ := hp
  have hs := rS.1
  refine ⟨hR, _, _, k1.add rT hp' (fun j _ _ => by rw [ew]) ⟨k3.2, by omega, k4, Or.inr hb⟩ hl (by omega) (Or.inr ⟨ht, rfl⟩), fun i i0 i1 => ?_, by rw [pu_eq]; omega, fun j j0 j1 => ?_, by rw [pu_eq, e5]; exact k5, ?_, by rw [pu_eq]; omega, fun _ _ => by rw [pu_eq]; omega⟩
  · rw [p1]
    by_cases ei : i = zI σ 12 3
    · rw [ei, pu_eq]; exact h0
    · rw [pu_ne ei]; exact k2 i i0 (by omega)
  · rw [pu_eq] at j0; omega
  · unfold NDs; rw [e5, ob_I ho 6, ew]; exact k6
theorem RX.nam {σ τ : ZS} {h : Int → Int} {L a e v w : Int} (hx : RX h L a σ) (hR : RD τ) (ha : a < L) (hb : cL (h a)) (hn : xNam σ τ w v) (hp : xPut σ τ 3 v a) (hl : LXm h L (zA τ 11 0) a e 3 v) (he : isRun (fun j => cL (h j) ∨ cD (h j)) L (a + 1) e) : RX h L e τ := by
  obtain ⟨hr, E, M, k1, k2, k3, k4, k5, k6, k7, k8⟩ := hx
  obtain ⟨rS, rR, rF, rT⟩ := hr
  have hp' := hp
  obtain ⟨p0, p1, p2, p3⟩ := hp
  have hs := rS.1
  have hz := rT.1
  have hb2 : h a ≠ 32 := by unfold cL at hb; omega
  have he1 := he.1
  have hend : e < L → ¬ (cL (h e) ∨ cD (h e)) := fun q => by
    rcases he.2.2.2 with z | z
    · omega
    · exact z
  have hcap : 2 * zI σ 11 5 ≤ a := by
    by_cases q : E (zI σ 12 3) = a
    · rw [q] at k8; exact k8 ha (Or.inl hb)
    · omega
  have types : ∀ i : Int, 0 ≤ i → i < zI τ 12 3 → zA τ 12 0 i ≠ 0 := fun i i0 i1 => by
    rw [p1]
    by_cases ei : i = zI σ 12 3
    · rw [ei, pu_eq]; decide
    · rw [pu_ne ei]; exact k2 i i0 (by omega)
  rcases hn with ⟨n1, n2, n3, n4⟩ | ⟨n1, n2, n3, n4, n5⟩
  · have e5 := ob_I n4 5
    have ew := ob_A n4 0
    refine ⟨hR, _, _, k1.add rT hp' (fun j _ _ => by rw [ew]) ⟨k3.2, by omega, k4, Or.inr hb2⟩ hl (by omega) (Or.inl ⟨rfl, Or.inl ⟨n1, by omega, rfl⟩⟩), types, by rw [pu_eq]; omega, fun j j0 j1 => ?_, by rw [pu_eq, e5]; exact k5, ?_, by rw [pu_eq]; omega, fun _ _ => by rw [pu_eq]; omega⟩
    · rw [pu_eq] at j0; omega
    · unfold NDs; rw [e5, ob_I n4 6, ew]; exact k6
  · refine ⟨hR, _, _, k1.add rT hp' (fun j j0 j1 => by rw [n4, pu_ne (by omega)]) ⟨k3.2, by omega, k4, Or.inr hb2⟩ hl (by omega) (Or.inl ⟨rfl, Or.inr ⟨by omega, rfl⟩⟩), types, by rw [pu_eq]; omega, fun j j0 j1 => ?_, by rw [pu_eq]; omega, ?_, by rw [pu_eq]; omega, fun q z => absurd z (by rw [pu_eq] at q ⊢; exact hend q)⟩
    · rw [pu_eq] at j0; omega
    · refine ⟨fun i j i0 i1 j0 j1 eij => ?_, fun q => (n5 q).trans (k6.2 (by omega))⟩
      rw [n4] at eij
      have fresh : ∀ x : Int, 0 ≤ x → x < zI σ 11 5 → zA σ 11 0 x ≠ w := n2
      by_cases ei : i = zI σ 11 5 <;> by_cases ej : j = zI σ 11 5
      · omega
      · rw [ei, pu_eq, pu_ne ej] at eij; exact absurd eij.symm (fresh j j0 (by omega))
      · rw [ej, pu_eq, pu_ne ei] at eij; exact absurd eij (fresh i i0 (by omega))
      · rw [pu_ne ei, pu_ne ej] at eij; exact k6.1 i j i0 (by omega) j0 (by omega) eij
/-- a text that has been read -/
def RDx (h : Int → Int) (L : Int) (τ : ZS) (E M : Int → Int) : Prop := RD τ ∧ TKS τ h L (zI τ 12 3) E M ∧ 1 ≤ zI τ 12 3 ∧ zA τ 12 0 (zI τ 12 3 - 1) = 0 ∧ (∀ i : Int, 0 ≤ i → i < zI τ 12 3 - 1 → zA τ 12 0 i ≠ 0) ∧ M (zI τ 12 3) = zI τ 11 5 ∧ NDs τ
theorem x_read {σ : ZS} {L : Int} {Q : ZS → Prop} (hX : TX σ) (hN : NR σ) (hL : L = zI σ 10 1) (hQ : ∀ (τ : ZS) (E M : Int → Int), RDx (zA σ 10 0) L τ E M → kp [11, 12] σ τ → Q τ) : wpX9_read L σ Q := by
  have hl := hX.1
  have h32 : ∀ j : Int, 0 ≤ j → j < L → 32 ≤ zA σ 10 0 j := fun j a b => hX.2.2 j a (by omega)
  unfold wpX9_read wpX5_clear wpX9_read_17
  have f109 : ∀ τ : ZS, RX (zA σ 10 0) L L τ → kp [11, 12] σ τ → zI τ 12 3 ≤ 480 → wpX9_read_109 L τ Q := by
    intro τ hr hk hz
    obtain ⟨⟨uS, uR, uF, uT⟩, E, M, k1, k2, k3, k4, k5, k6, k7, k8⟩ := hr
    unfold wpX9_read_109
    refine x_put uT ⟨by decide, by decide, by omega, fun q => absurd q (by decide)⟩ hz (fun υ a b c => hQ υ _ _ ⟨⟨uS.k (b 11 (by decide)), uR.k (b 11 (by decide)), uF.k (b 11 (by decide)), a⟩, k1.add uT c (fun j _ _ => by rw [ob_A (b 11 (by decide)) 0]) ⟨k3.2, Int.le_refl _, k4, Or.inl rfl⟩ (Or.inl ⟨rfl, rfl, rfl⟩) (by have := uS.1; omega) (Or.inr ⟨by decide, rfl⟩), ?_, ?_, ?_, ?_, ?_⟩ (hk.tr (b.up (by decide))))
    · have := uT.1; have := c.1; omega
    · rw [c.1, c.2.1, show zI τ 12 3 + 1 - 1 = zI τ 12 3 by omega, pu_eq]
    · intro i i0 i1
      have := c.1
      rw [c.2.1, pu_ne (by omega)]; exact k2 i i0 (by omega)
    · rw [pu_eq, ob_I (b 11 (by decide)) 5]; exact k5
    · unfold NDs; rw [ob_I (b 11 (by decide)) 5, ob_I (b 11 (by decide)) 6, ob_A (b 11 (by decide)) 0]; exact k6
  refine lfp2_ind (fun _ v _ => (480 - v).toNat) (fun v3 v4 τ => RX (zA σ 10 0) L v3 τ ∧ kp [11, 12] σ τ ∧ zI τ 12 3 ≤ v3 ∧ (0 ≤ v3 ∧ v3 ≤ L) ∧ 0 ≤ v4 ∧ v4 ≤ v3) (fun K v3 v4 τ hI ih => ?_) ⟨⟨⟨⟨(show (0 : Int) ≤ 0 ∧ (0 : Int) ≤ 240 by decide), (show (-1 : Int) ≤ -1 ∧ (-1 : Int) ≤ 480 by decide), fun q => absurd (show (25 : Int) ≤ 0 from q) (by decide)⟩, hN, fun n n0 n1 => ?_, ⟨(show (0 : Int) ≤ 0 ∧ (0 : Int) ≤ 481 by decide), fun i i0 i1 => ?_⟩⟩, fun _ => 0, fun _ => 0, ⟨rfl, rfl, fun i i0 i1 => ?_⟩, fun i i0 i1 => ?_, (show (0 : Int) ≤ 0 ∧ (0 : Int) ≤ 0 by decide), fun j j0 j1 => ?_, rfl, ⟨fun i j i0 i1 => ?_, fun _ => rfl⟩, (show 2 * (0 : Int) ≤ 0 + 1 by decide), fun _ _ => (show 2 * (0 : Int) ≤ 0 by decide)⟩, ((kp.rf.ti (by decide)).ti (by decide)).ti (by decide), (show (0 : Int) ≤ 0 by decide), by omega, by omega⟩
  · obtain ⟨hr, hk, hz, h3, h4⟩ := hI
    have e10 := hk 10 (by decide)
    have eh : zA τ 10 0 = zA σ 10 0 := ob_A e10 0
    have hX' : TX τ := hX.k e10
    have done : v3 = L → wpX9_read_109 L τ Q := fun q => by rw [q] at hr; exact f109 τ hr hk (by omega)
    unfold wpbX9_read_17
    refine ⟨by omega, by omega, fun _ => done (by omega), fun a => ⟨by omega, fun _ => done (by omega), fun b => ⟨by omega, ?_⟩⟩⟩
    have hc := hX'.2.1 v3 (by omega) (by omega)
    have go : ∀ (x : Int) (υ : ZS), v3 < x → x ≤ L → RX (zA σ 10 0) L x υ → kp [11, 12] τ υ → zI υ 12 3 ≤ zI τ 12 3 + 1 → K x (v4 + 1) υ := fun x υ x0 x1 ur uk uz => ih _ _ _ ⟨ur, hk.tr uk, by omega, by omega, by omega⟩ (by omega)
    have hr0 := hr
    obtain ⟨⟨uS, uR, uF, uT⟩, E, M, k1, k2, k3, k4, k5, k6, k7, k8⟩ := hr
    have f95 : ∀ t : Int, (0 ≤ t ∧ t ≤ 126) → t ≠ 3 → t ≠ 0 → ¬ cL (zA σ 10 0 v3) → ¬ cD (zA σ 10 0 v3) → zA σ 10 0 v3 ≠ 32 → ((cS (zA σ 10 0 v3) ∧ t = zA σ 10 0 v3) ∨ (¬ cS (zA σ 10 0 v3) ∧ t = 1)) → wpX9_read_95 K L v3 v4 t τ Q := by
      intro t ht h3' h0 nl nd n32 hs
      unfold wpX9_read_95 wpX9_read_100 wpX9_read_103
      refine x_put uT ⟨ht, by decide, by omega, fun q => absurd q h3'⟩ (by omega) (fun υ a b c => ?_)
      exact go _ _ (by omega) (by omega) (hr0.add ⟨uS.k (b 11 (by decide)), uR.k (b 11 (by decide)), uF.k (b 11 (by decide)), a⟩ (by omega) n32 (b 11 (by decide)) c (Or.inr (Or.inr (Or.inr ⟨by omega, nl, nd, n32, rfl, hs⟩))) (by omega) h3' h0) (b.up (by decide)) (by have := c.1; omega)
    rw [eh] at hc ⊢
    refine c_isLetter (by omega) (fun q => ⟨by decide, fun q' => absurd q' (by decide), fun _ => ?_⟩) (fun q => ⟨by decide, fun _ => ?_, fun q' => absurd rfl q'⟩)
    · unfold wpX9_read_103
      have n32 : zA σ 10 0 v3 ≠ 32 := by unfold cL at q; omega
      have hcap : 2 * zI τ 11 5 ≤ v3 := by
        by_cases q2 : E (zI τ 12 3) = v3
        · rw [q2] at k8; exact k8 (by omega) (Or.inl q)
        · omega
      refine x_readWord hX' ⟨uS, uR, uF, uT⟩ (by omega) (by rw [eh]; exact q) (by omega) (by omega) (fun x υ t v ur uk hrun hw hp => ?_)
      rw [eh] at hrun hw
      have xl := hrun.1
      have xr := hrun.2.1
      have hp0 := hp.1
      refine go _ _ (by omega) xr ?_ uk (by omega)
      rcases hw with ⟨w1, w2, w3⟩ | ⟨w1, c, w2, w3⟩
      · exact hr0.add ur (by omega) n32 w3 hp (Or.inr (Or.inl ⟨by omega, q, hrun, Or.inl ⟨w1, w2⟩⟩)) (by omega) (by omega) (by omega)
      · rcases w3 with ⟨w3, w4, w5⟩ | ⟨w3, w4⟩
        · subst w4
          refine hr0.nam ur (by omega) q w5 hp (Or.inr (Or.inl ⟨by omega, q, hrun, Or.inr ⟨w1, c, w2, Or.inl ⟨w3, rfl, ?_⟩⟩⟩)) hrun
          rcases w5 with ⟨n1, n2, n3, n4⟩ | ⟨n1, n2, n3, n4, -⟩
          · rw [ob_A n4 0]; exact n3
          · rw [n4, n1, pu_eq]
        · exact hr0.add ur (by omega) n32 w4 hp (Or.inr (Or.inl ⟨by omega, q, hrun, Or.inr ⟨w1, c, w2, Or.inr w3⟩⟩)) (by omega) (by omega) (by omega)
    · refine c_isDigit (by omega) (fun q2 => ⟨by decide, fun q' => absurd q' (by decide), fun _ => ?_⟩) (fun q2 => ⟨by decide, fun _ => ⟨by omega, fun b32 => ?_, fun n32 => ?_⟩, fun q' => absurd rfl q'⟩)
      · unfold wpX9_read_103
        have n32 : zA σ 10 0 v3 ≠ 32 := by unfold cD at q2; omega
        refine x_readNumber hX' uT (by omega) (by rw [eh]; exact q2) (by omega) (fun x υ t v ut uk hrun hw hp => ?_)
        rw [eh] at hrun hw
        have xl := hrun.1
        have xr := hrun.2.1
        have hp0 := hp.1
        have ht : t ≠ 3 ∧ t ≠ 0 := by rcases hw with w | w <;> omega
        exact go _ _ (by omega) xr (hr0.add ⟨uS.k (uk 11 (by decide)), uR.k (uk 11 (by decide)), uF.k (uk 11 (by decide)), ut⟩ (by omega) n32 (uk 11 (by decide)) hp (Or.inr (Or.inr (Or.inl ⟨by omega, q2, hrun, hw⟩))) (by omega) ht.1 ht.2) (uk.up (by decide)) (by omega)
      · unfold wpX9_read_100 wpX9_read_103
        refine go _ _ (by omega) (by omega) ⟨⟨uS, uR, uF, uT⟩, E, M, k1, k2, ⟨k3.1, by omega⟩, fun j j0 j1 => ?_, k5, k6, k7, k8⟩ kp.rf (by omega)
        by_cases ej : j = v3
        · rw [ej]; exact b32
        · exact k4 j j0 (by omega)
      · have h32' := h32 v3 (by omega) (by omega)
        refine x_indexOf (by omega) (fun x hx hxs => ⟨by omega, fun z => f95 1 (by decide) (by decide) (by decide) q q2 n32 (Or.inr ⟨fun y => ?_, rfl⟩), fun z => f95 _ (by omega) (by omega) (by omega) q q2 n32 (Or.inl ⟨hxs.mp (by omega), rfl⟩)⟩)
        have := hxs.mpr y
        omega
  · have n1' : n < 0 := n1
    omega
  · have i1' : i < 0 := i1
    omega
  · have i1' : i < 0 := i1
    omega
  · have i1' : i < 0 := i1
    omega
  · have j0' : (0 : Int) ≤ j := j0
    omega
  · have i1' : i < 0 := i1
    omega
/-! X: the reference's lexer stands at a token of the class -/
theorem pkv_inj {h g : Int → Int} {s b : Int} : ∀ n m : Nat, (∀ j : Nat, j < n → 0 < h (s + j) ∧ h (s + j) < 128) → (∀ j : Nat, j < m → 0 < g (b + j) ∧ g (b + j) < 128) → pkv h s n = pkv g b m → n = m ∧ ∀ j : Nat, j < n → h (s + j) = g (b + j)
  | 0, 0, _, _, _ => ⟨rfl, fun j hj => absurd hj (Nat.not_lt_zero j)⟩
  | 0, m + 1, _, hg, e => by
    have h1 := hg m (by omega)
    have e' : (0 : Int) = pkv g b m * 128 + g (b + m) := e
    have := pkv_bd (h := g) (s := b) m (fun j a c => by have := hg (j - b).toNat (by omega); rw [show b + ((j - b).toNat : Int) = j by omega] at this; omega)
    omega
  | n + 1, 0, hh, _, e => by
    have h1 := hh n (by omega)
    have e' : pkv h s n * 128 + h (s + n) = (0 : Int) := e
    have := pkv_bd (h := h) (s := s) n (fun j a c => by have := hh (j - s).toNat (by omega); rw [show s + ((j - s).toNat : Int) = j by omega] at this; omega)
    omega
  | n + 1, m + 1, hh, hg, e => by
    have h1 := hh n (by omega)
    have g1 := hg m (by omega)
    have e' : pkv h s n * 128 + h (s + n) = pkv g b m * 128 + g (b + m) := e
    obtain ⟨en, ej⟩ := pkv_inj n m (fun j hj => hh j (by omega)) (fun j hj => hg j (by omega)) (by omega)
    refine ⟨by omega, fun j hj => ?_⟩
    by_cases q : j = n
    · subst en; rw [q]; omega
    · exact ej j (by omega)
theorem pkv_cg {h g : Int → Int} {s b : Int} : ∀ n : Nat, (∀ j : Nat, j < n → h (s + j) = g (b + j)) → pkv h s n = pkv g b n
  | 0, _ => rfl
  | n + 1, hh => by
    show pkv h s n * 128 + h (s + n) = pkv g b n * 128 + g (b + n)
    rw [pkv_cg n (fun j hj => hh j (by omega)), hh n (by omega)]
theorem nv_cg {h g : Int → Int} {s : Int} : ∀ n : Nat, h s = g s → (∀ j : Nat, j < n → h (s + 1 + j) = g (s + 1 + j)) → nv h s n = nv g s n
  | 0, h0, _ => by show h s - 48 = g s - 48; rw [h0]
  | n + 1, h0, hh => by
    show (if nv h s n ≤ 100000 then 10 * nv h s n + h (s + 1 + n) - 48 else nv h s n) = (if nv g s n ≤ 100000 then 10 * nv g s n + g (s + 1 + n) - 48 else nv g s n)
    rw [nv_cg n h0 (fun j hj => hh j (by omega)), hh n (by omega)]
/-- the reference's number a of a word, the class's number b of it -/
def RW (a b : Int) : Prop := ∃ (f : Int → Int) (s : Int) (n : Nat), (∀ j : Nat, j < n → 0 < f (s + j) ∧ f (s + j) < 128) ∧ a = wv f s n ∧ b = pkv f s n
theorem RW.iff {a b a' b' : Int} (h : RW a b) (k : RW a' b') : a = a' ↔ b = b' := by
  obtain ⟨f, s, n, h1, h2, h3⟩ := h
  obtain ⟨g, t, m, k1, k2, k3⟩ := k
  rw [h2, h3, k2, k3]
  constructor
  · intro e
    obtain ⟨en, ej⟩ := wv_inj n m (fun j hj => ⟨(h1 j hj).1, by have := (h1 j hj).2; omega⟩) (fun j hj => ⟨(k1 j hj).1, by have := (k1 j hj).2; omega⟩) e
    subst en
    exact pkv_cg n ej
  · intro e
    obtain ⟨en, ej⟩ := pkv_inj n m h1 k1 e
    subst en
    exact wv_cg n ej
/-- the token of the reference is the token t, v of the class -/
def TM (ρ : ZS) (t v : Int) (nw : Int → Int) : Prop := (t = 0 ∧ zI ρ 0 7 = 0) ∨ (t = 1 ∧ zI ρ 0 7 = 9) ∨ (t = 2 ∧ zI ρ 0 7 = 2 ∧ zI ρ 0 10 = v) ∨ (t = 3 ∧ zI ρ 0 7 = 1 ∧ zI ρ 0 9 = -1 ∧ RW (zI ρ 0 8) (nw v)) ∨ (t = 4 ∧ zI ρ 0 7 = 1 ∧ zI ρ 0 9 = v ∧ 0 ≤ v ∧ v < 8) ∨ (t = 5 ∧ zI ρ 0 7 = 1 ∧ zI ρ 0 9 = v + 8 ∧ 0 ≤ v ∧ v < 4) ∨ (t = 6 ∧ zI ρ 0 7 = 1 ∧ zI ρ 0 9 = v + 12 ∧ 0 ≤ v ∧ v < 36) ∨ (cS t ∧ zI ρ 0 7 = t)
/-- the reference stands at token i -/
def SY (h : Int → Int) (L : Int) (E : Int → Int) (σ : ZS) (i : Int) (ρ : ZS) : Prop := zI ρ 0 2 = L ∧ (∀ j : Int, 0 ≤ j → j < L → zA ρ 0 1 j = h j) ∧ zI ρ 0 5 = E (i + 1) ∧ zI ρ 0 6 = zA σ 12 2 i ∧ TM ρ (zA σ 12 0 i) (zA σ 12 1 i) (zA σ 11 0)
theorem LXm.le {h : Int → Int} {L : Int} {nw : Int → Int} {p e t v : Int} (k : LXm h L nw p e t v) : p ≤ e ∧ (t ≠ 0 → p < e) ∧ e ≤ L := by
  rcases k with ⟨a, b, c⟩ | ⟨a, b, c, d⟩ | ⟨a, b, c, d⟩ | ⟨a, b, c, d, e', f⟩
  · exact ⟨by omega, fun q => absurd c q, by omega⟩
  · have := c.1; have := c.2.1; exact ⟨by omega, fun _ => by omega, by omega⟩
  · have := c.1; have := c.2.1; exact ⟨by omega, fun _ => by omega, by omega⟩
  · exact ⟨by omega, fun _ => by omega, by omega⟩
theorem TKS.e0 {σ : ZS} {h : Int → Int} {L n : Int} {E M : Int → Int} (k : TKS σ h L n E M) : ∀ i : Nat, (i : Int) ≤ n → 0 ≤ E i
  | 0, _ => by rw [show ((0 : Nat) : Int) = 0 from rfl, k.1]; exact Int.le_refl _
  | i + 1, hi => by
    have ih := k.e0 i (by omega)
    obtain ⟨a, b, -⟩ := k.2.2 i (by omega) (by omega)
    have := a.1
    have := b.le.1
    rw [show (((i + 1 : Nat)) : Int) = (i : Int) + 1 by omega]
    omega
theorem isRun.cg {p q : Int → Prop} {L a s : Int} (h : isRun p L a s) (e : ∀ j : Int, a ≤ j → j < L → (p j ↔ q j)) : isRun q L a s := by
  obtain ⟨h1, h2, h3, h4⟩ := h
  refine ⟨h1, h2, fun j j0 j1 => (e j j0 (by omega)).mp (h3 j j0 j1), ?_⟩
  by_cases z : s = L
  · exact Or.inl z
  · rcases h4 with h4 | h4
    · exact Or.inl h4
    · exact Or.inr (fun y => h4 ((e s h1 (by omega)).mpr y))
theorem SY_nxt {h : Int → Int} {L i : Int} {E M : Int → Int} {σ ρ τ : ZS} (hR : TKS σ h L (zI σ 12 3) E M) (i0 : 0 ≤ i) (i1 : i < zI σ 12 3) (hL : zI ρ 0 2 = L) (ht : ∀ j : Int, 0 ≤ j → j < L → zA ρ 0 1 j = h j) (hw : ∀ k : Int, 0 ≤ k → k < 48 → zA ρ 0 11 k = zwords k) (hc : ∀ j : Int, 0 ≤ j → j < L → h j ≤ 126) (h5 : zI ρ 0 5 = E i) (hn : nxt ρ τ) : SY h L E σ i τ := by
  have hE := hR.e0 i.toNat (by omega)
  rw [show ((i.toNat : Nat) : Int) = i by omega] at hE
  obtain ⟨r1, r2, -⟩ := hR.2.2 i i0 i1
  obtain ⟨hf, s, e, n1, n2, n3, n4⟩ := hn
  rw [hL, h5] at n1
  have hs : s = zA σ 12 2 i := isRun.u (n1.cg (fun j j0 j1 => by rw [ht j (by omega) j1])) r1
  have s0 : 0 ≤ s := by have := n1.1; omega
  rw [hL] at n4
  have fin : e = E (i + 1) → TM τ (zA σ 12 0 i) (zA σ 12 1 i) (zA σ 11 0) → SY h L E σ i τ := fun he hm => ⟨(hf.1 2 (by decide)).trans hL, fun j j0 j1 => by rw [hf.2 1 (by decide)]; exact ht j j0 j1, by rw [n3, he], by rw [n2, hs], hm⟩
  rw [← hs] at r2
  rcases r2 with ⟨a1, a2, a3⟩ | ⟨a1, a2, a3, a4⟩ | ⟨a1, a2, a3, a4⟩ | ⟨a1, a2, a3, a4, a5, a6⟩
  · rcases n4 with ⟨b1, b2, b3, -⟩ | ⟨b1, -⟩ | ⟨b1, -⟩ | ⟨b1, -⟩
    · exact fin (by omega) (Or.inl ⟨a3, b3⟩)
    · omega
    · omega
    · omega
  · have hl := ht s s0 a1
    rcases n4 with ⟨b1, -⟩ | ⟨b1, b2, b3, b4, b5, b6, b7⟩ | ⟨b1, b2, -⟩ | ⟨b1, b2, -⟩
    · omega
    · have ee : e = E (i + 1) := isRun.u (b3.cg (fun j j0 j1 => by rw [ht j (by omega) j1])) a3
      refine fin ee ?_
      have e1 := a3.1
      have eL := a3.2.1
      rw [← ee] at a3 a4
      rcases a4 with ⟨c1, c2⟩ | ⟨c1, c, c2, c3⟩
      · rw [if_neg (by omega)] at b4
        exact Or.inr (Or.inl ⟨c2, b4⟩)
      · rw [if_pos c1] at b4
        have hcg : wv (zA ρ 0 1) s (min (e - s) 7).toNat = wv h s (e - s).toNat := by
          rw [show (min (e - s) 7).toNat = (e - s).toNat by omega]
          exact wv_cg _ (fun j hj => ht _ (by omega) (by omega))
        rw [hcg] at b5
        have cc : zI τ 0 9 = c := by
          refine cd_u (h := zwords) ?_ c2
          rw [← b5]
          rcases b6 with ⟨y1, y2⟩ | ⟨y1, y2, y3, y4⟩
          · exact Or.inl ⟨y1, fun k k0 k1 => by rw [← hw k k0 k1]; exact y2 k k0 k1⟩
          · exact Or.inr ⟨y1, y2, by rw [← hw _ y1 y2]; exact y3, fun k k0 k1 => by rw [← hw k (by omega) k1]; exact y4 k k0 k1⟩
        rcases c3 with ⟨d1, d2, d3⟩ | ⟨d1, d2, d3, d4⟩ | ⟨d1, d2, d3, d4⟩ | ⟨d1, d2, d3, d4⟩
        · refine Or.inr (Or.inr (Or.inr (Or.inl ⟨d2, b4, cc.trans d1, h, s, (e - s).toNat, fun j hj => ?_, b5, d3⟩)))
          have := hc (s + j) (by omega) (by omega)
          by_cases q : j = 0
          · rw [q, show s + ((0 : Nat) : Int) = s by omega]
            unfold cL at a2
            omega
          · have := a3.2.2.1 (s + j) (by omega) (by omega)
            unfold cL cD at this
            omega
        · exact Or.inr (Or.inr (Or.inr (Or.inr (Or.inl ⟨d3, b4, by omega, by omega, by omega⟩))))
        · exact Or.inr (Or.inr (Or.inr (Or.inr (Or.inr (Or.inl ⟨d3, b4, by omega, by omega, by omega⟩)))))
        · exact Or.inr (Or.inr (Or.inr (Or.inr (Or.inr (Or.inr (Or.inl ⟨d3, b4, by omega, by omega, by omega⟩))))))
    · rw [hl] at b2; unfold cL at a2; unfold cD at b2; omega
    · rw [hl] at b2; exact absurd a2 b2
  · have hl := ht s s0 a1
    rcases n4 with ⟨b1, -⟩ | ⟨b1, b2, -⟩ | ⟨b1, b2, b3, b4, b5, -⟩ | ⟨b1, b2, b3, -⟩
    · omega
    · rw [hl] at b2; unfold cL at b2; unfold cD at a2; omega
    · have ee : e = E (i + 1) := isRun.u (b3.cg (fun j j0 j1 => by rw [ht j (by omega) j1])) a3
      refine fin ee ?_
      have e1 := a3.1
      have eL := a3.2.1
      rw [← ee] at a3 a4
      have hcg : nv (zA ρ 0 1) s (e - s - 1).toNat = nv h s (e - s - 1).toNat := nv_cg _ hl (fun j hj => ht _ (by omega) (by omega))
      rw [hcg] at b4
      rcases a4 with ⟨c1, c2, c3⟩ | ⟨c1, c2⟩
      · rw [if_pos (by omega)] at b5
        exact Or.inr (Or.inr (Or.inl ⟨c2, b5, by omega⟩))
      · rw [if_neg (by omega)] at b5
        exact Or.inr (Or.inl ⟨c2, b5⟩)
    · rw [hl] at b3; exact absurd a2 b3
  · have hl := ht s s0 a1
    rw [hl] at n4
    rcases n4 with ⟨b1, -⟩ | ⟨b1, b2, -⟩ | ⟨b1, b2, -⟩ | ⟨b1, b2, b3, b4, b5, -⟩
    · omega
    · exact absurd b2 a2
    · exact absurd b2 a3
    · refine fin (by omega) ?_
      rcases a6 with ⟨c1, c2⟩ | ⟨c1, c2⟩
      · rcases b5 with ⟨d1, d2⟩ | ⟨d1, d2⟩
        · exact Or.inr (Or.inr (Or.inr (Or.inr (Or.inr (Or.inr (Or.inr ⟨by rw [c2]; exact c1, by rw [c2]; exact d2⟩))))))
        · exact absurd c1 d1
      · rcases b5 with ⟨d1, d2⟩ | ⟨d1, d2⟩
        · exact absurd d1 c1
        · exact Or.inr (Or.inl ⟨c2, d2⟩)
/-! X: what the reference has noted, as a walk over the class's items -/
/-- uses: kinds, names, segments, how many -/
def UD : Type := (Int → Int) × (Int → Int) × (Int → Int) × Int
def UD.uk (u : UD) : Int → Int := u.1
def UD.un (u : UD) : Int → Int := u.2.1
def UD.us (u : UD) : Int → Int := u.2.2.1
def UD.nu (u : UD) : Int := u.2.2.2
/-- sorts, segments and aligns of names; names of segments, how many, the one that is open; whether a name is wrong; uses; pieces -/
def YD : Type := ((Int → Int) × (Int → Int) × (Int → Int)) × ((Int → Int) × Int × Int) × Prop × UD × (Int → Int) × (Int → Int) × (Int → Int) × (Int → Int) × Int
def YD.so (d : YD) : Int → Int := d.1.1
def YD.sg (d : YD) : Int → Int := d.1.2.1
def YD.al (d : YD) : Int → Int := d.1.2.2
def YD.sn (d : YD) : Int → Int := d.2.1.1
def YD.ns (d : YD) : Int := d.2.1.2.1
def YD.cur (d : YD) : Int := d.2.1.2.2
def YD.bad (d : YD) : Prop := d.2.2.1
def YD.u (d : YD) : UD := d.2.2.2.1
def YD.pk (d : YD) : Int → Int := d.2.2.2.2.1
def YD.pa (d : YD) : Int → Int := d.2.2.2.2.2.1
def YD.pb (d : YD) : Int → Int := d.2.2.2.2.2.2.1
def YD.ps (d : YD) : Int → Int := d.2.2.2.2.2.2.2.1
def YD.np (d : YD) : Int := d.2.2.2.2.2.2.2.2
def uA (u : UD) (c k n : Int) : UD := (zu u.uk u.nu k, zu u.un u.nu n, zu u.us u.nu c, u.nu + 1)
def yU (d : YD) (k n : Int) : YD := (d.1, d.2.1, d.2.2.1, uA d.u d.cur k n, d.2.2.2.2)
def yP (d : YD) (k a b : Int) : YD := (d.1, d.2.1, d.2.2.1, d.u, zu d.pk d.np k, zu d.pa d.np a, zu d.pb d.np b, zu d.ps d.np d.cur, d.np + 1)
def yB (d : YD) : YD := (d.1, d.2.1, True, d.2.2.2)
def yLab (d : YD) (n : Int) : YD := if d.so n = 0 then yP ((zu d.so n 2, zu d.sg n d.cur, d.al), d.2) 7 n 0 else yB d
def ySeg (d : YD) (n a : Int) : YD := if 1 < d.so n ∨ (d.so n = 1 ∧ d.al n ≠ a) then yB d else if d.so n = 0 then ((zu d.so n 1, zu d.sg n d.ns, zu d.al n a), (zu d.sn d.ns n, d.ns + 1, d.ns), d.2.2) else (d.1, (d.sn, d.ns, d.sg n), d.2.2)
def yExt (d : YD) (n : Int) : YD := if d.so n = 0 then ((zu d.so n 3, d.sg, d.al), d.2) else yB d
/-- an item's work -/
def yI (d : YD) (t v n : Int) : YD := if t = 0 then ySeg d n v else if t = 1 then yLab d n else if t = 2 then yU d 0 n else if t = 3 then yExt d n else if t = 4 then yP d 0 v 0 else if t = 5 then yP d 8 v 0 else if t = 6 then yP d 1 v 0 else if t = 7 then yP (yU d 1 n) 2 n v else if t = 8 then yP (yU d 1 n) 3 n 0 else if t = 9 then yP (yU d 3 n) 4 n 0 else if t = 10 then yP (yU d 2 n) 5 n v else if t = 11 then yP (yU d 3 n) 6 n 0 else yP (yP (yP (yU d 4 n) 0 154 0) 2 n 0) 3 n 0
def yD0 : YD := ((fun _ => 0, fun _ => -1, fun _ => 0), (fun _ => 0, 0, -1), False, (fun _ => 0, fun _ => 0, fun _ => 0, 0), fun _ => 0, fun _ => 0, fun _ => 0, fun _ => 0, 0)
def yF (a b c : Int → Int) : Nat → YD
  | 0 => yD0
  | k + 1 => yI (yF a b c k) (a k) (b k) (c k)
theorem yF_cg {a b c a' b' c' : Int → Int} : ∀ k : Nat, (∀ j : Nat, j < k → a j = a' j ∧ b j = b' j ∧ c j = c' j) → yF a b c k = yF a' b' c' k
  | 0, _ => rfl
  | k + 1, h => by
    obtain ⟨h1, h2, h3⟩ := h k (by omega)
    show yI (yF a b c k) (a k) (b k) (c k) = yI (yF a' b' c' k) (a' k) (b' k) (c' k)
    rw [yF_cg k (fun j hj => h j (by omega)), h1, h2, h3]
/-- all items of the class -/
def yS (σ : ZS) : YD := yF (zA σ 13 0) (zA σ 13 1) (zA σ 13 2) (zI σ 13 7).toNat
theorem yS.k {σ τ : ZS} (e : ob τ 13 = ob σ 13) : yS τ = yS σ := by
  unfold yS; rw [ob_I e 7, ob_A e 0, ob_A e 1, ob_A e 2]
/-- the uses noted -/
def YU (ρ : ZS) (u : UD) : Prop := zI ρ 0 23 = u.nu ∧ ∀ i : Int, 0 ≤ i → i < u.nu → zA ρ 0 19 i = u.uk i ∧ zA ρ 0 20 i = u.un i ∧ zA ρ 0 22 i = u.us i
/-- names and segments noted -/
def YN (ρ : ZS) (m : Int) (d : YD) : Prop := (∀ n : Int, 0 ≤ n → n < m → zA ρ 0 13 n = d.so n ∧ (d.so n = 1 ∨ d.so n = 2 → zA ρ 0 14 n = d.sg n) ∧ (d.so n = 1 → zA ρ 0 15 n = d.al n)) ∧ (∀ n : Int, m ≤ n → d.so n = 0) ∧ zI ρ 0 34 = d.ns ∧ (∀ s : Int, 0 ≤ s → s < d.ns → zA ρ 0 35 s = d.sn s) ∧ zI ρ 0 32 = d.cur ∧ (zI ρ 0 18 < 0 ↔ ¬ d.bad)
/-- the pieces noted -/
def YP (ρ : ZS) (d : YD) : Prop := zI ρ 0 31 = d.np ∧ ∀ p : Int, 0 ≤ p → p < d.np → zA ρ 0 24 p = d.pk p ∧ zA ρ 0 25 p = d.pa p ∧ zA ρ 0 26 p = d.pb p ∧ zA ρ 0 28 p = d.ps p
/-- an item is added -/
theorem x_add {σ : ZS} {t v n p w : Int} {Q : ZS → Prop} (h : PS σ) (hi : IT (zI σ 11 5) t v n p w) (ho : t = 0 ∨ t = 2 ∨ t = 3 ∨ zI σ 14 5 = 1) (hs : zI σ 13 7 < 248) (hQ : ∀ τ : ZS, PS τ → kp [13] σ τ → (zI τ 13 7 = 248 ∨ ∃ j : Int, 0 ≤ j ∧ j < zI τ 13 7 ∧ zA τ 13 0 j = t) → zI τ 13 7 = zI σ 13 7 + 1 → yS τ = yI (yS σ) t v n → Q τ) : wpX0_add t v n p w σ Q := by
  have g := c_add (Q := fun τ => PS τ ∧ kp [13] σ τ ∧ (zI τ 13 7 = 248 ∨ ∃ j : Int, 0 ≤ j ∧ j < zI τ 13 7 ∧ zA τ 13 0 j = t)) h hi ho (fun τ a b c => ⟨a, b, c⟩)
  unfold wpX0_add wpX0_add_92 at g ⊢
  refine ⟨g.1, fun q => absurd q (by omega), fun q => ⟨(g.2.2 q).1, ?_⟩⟩
  obtain ⟨g1, g2, g3⟩ := (g.2.2 q).2
  have h0 := (g.2.2 q).1
  refine hQ _ g1 g2 g3 rfl ?_
  show yF (zu (zA σ 13 0) (zI σ 13 7) t) (zu (zA σ 13 1) (zI σ 13 7) v) (zu (zA σ 13 2) (zI σ 13 7) n) (zI σ 13 7 + 1).toNat = _
  rw [show (zI σ 13 7 + 1).toNat = (zI σ 13 7).toNat + 1 by omega]
  show yI _ (zu (zA σ 13 0) (zI σ 13 7) t ((zI σ 13 7).toNat : Int)) (zu (zA σ 13 1) (zI σ 13 7) v ((zI σ 13 7).toNat : Int)) (zu (zA σ 13 2) (zI σ 13 7) n ((zI σ 13 7).toNat : Int)) = _
  rw [show ((zI σ 13 7).toNat : Int) = zI σ 13 7 by omega, pu_eq, pu_eq, pu_eq, yF_cg (zI σ 13 7).toNat (fun j hj => ⟨pu_ne (by omega), pu_ne (by omega), pu_ne (by omega)⟩)]
  rfl
/-- the reference's name -/
def xNm (σ : ZS) (n : Int) (τ : ZS) : Prop := (n < zI σ 0 17 ∧ zA σ 0 12 n = zI σ 0 8 ∧ τ = σ) ∨ (n = zI σ 0 17 ∧ (∀ j : Int, 0 ≤ j → j < zI σ 0 17 → zA σ 0 12 j ≠ zI σ 0 8) ∧ zI τ 0 17 = zI σ 0 17 + 1 ∧ zA τ 0 12 = zu (zA σ 0 12) n (zI σ 0 8) ∧ zA τ 0 13 = zu (zA σ 0 13) n 0 ∧ (zI σ 0 17 + 1 ≤ 24 → zI τ 0 18 = zI σ 0 18))
theorem x_name {σ : ZS} {Q : Int → ZS → Prop} (hG : GG σ) (ht : zI σ 0 7 = 1) (hF : Fresh σ) (hQ : ∀ (n : Int) (τ : ZS), 0 ≤ n → n < 240 → n < zI τ 0 17 → GG τ → PR σ τ → fr [17, 18] [12, 13] σ τ → xNm σ n τ → Q n τ) : wpX11_name σ Q := by
  have hG0 := hG
  obtain ⟨hT, hL, hk, hn, hw, h1, h2, h3, h4, h5, h6⟩ := hG
  have hL0 := hL
  obtain ⟨l1, l2, l3, l4, l5, l6, l7, l8, l9, l10, l11, l12, l13, l14, l15, l16, l17, l18, l19⟩ := hL
  have hf := hF ht
  have hst := hk.2.1 (by omega)
  unfold wpX11_name wpX11_name_2
  refine lfp1_ind (fun k _ => (240 - k).toNat) (fun k τ => τ = σ ∧ 0 ≤ k ∧ k ≤ zI σ 0 17 ∧ ∀ j : Int, 0 ≤ j → j < k → zA σ 0 12 j ≠ zI σ 0 8) ?_ ⟨rfl, by omega, by omega, fun j a b => by omega⟩
  intro P k τ hI hP
  obtain ⟨rfl, hk0, hk1, hfs⟩ := hI
  have hfin : (k < zI τ 0 17 → zA τ 0 12 k = zI τ 0 8 → wpX11_name_30 k τ Q) ∧ (k = zI τ 0 17 → wpX11_name_30 k τ Q) := by
    constructor
    · intro hlt hwe
      unfold wpX11_name_30 wpX11_name_82
      exact ⟨by omega, by omega, fun _ => hQ k τ hk0 (by omega) hlt hG0 PR.rf fr.rf (Or.inl ⟨hlt, hwe, rfl⟩), fun q => by omega⟩
    · intro heq
      unfold wpX11_name_30 wpX11_name_82
      have hfr : fr [17, 18] [12, 13] τ (zsI (zsA (zsA τ 0 12 k (zI τ 0 8)) 0 13 k 0) 0 17 (zI τ 0 17 + 1)) := ((fr.rf.ta (by decide)).ta (by decide)).ti (by decide)
      have hPR : PR τ (zsI (zsA (zsA τ 0 12 k (zI τ 0 8)) 0 13 k 0) 0 17 (zI τ 0 17 + 1)) := ⟨hfr.up (by decide) (by decide), Int.le_refl _, Int.le_refl _, Int.le_refl _, fun _ _ _ => ⟨rfl, rfl⟩, fun h => h, (by show zI τ 0 17 ≤ zI τ 0 17 + 1; omega), Int.le_refl _⟩
      have a13 : ∀ n : Int, n ≠ k → zA (zsI (zsA (zsA τ 0 12 k (zI τ 0 8)) 0 13 k 0) 0 17 (zI τ 0 17 + 1)) 0 13 n = zA τ 0 13 n := fun n hne => pu_ne (h := zA τ 0 13) hne
      have a13k : zA (zsI (zsA (zsA τ 0 12 k (zI τ 0 8)) 0 13 k 0) 0 17 (zI τ 0 17 + 1)) 0 13 k = 0 := pu_eq (h := zA τ 0 13)
      have hGA1 : G1 (zsI (zsA (zsA τ 0 12 k (zI τ 0 8)) 0 13 k 0) 0 17 (zI τ 0 17 + 1)) := by
        intro n n0 n1
        obtain ⟨q1, q2, q3, q4⟩ := h1 n n0 n1
        refine ⟨?_, q2, q3, ?_⟩
        · by_cases e : n = k
          · rw [e, a13k]; omega
          · rw [a13 n e]; exact q1
        · show 0 ≤ zu (zA τ 0 12) k (zI τ 0 8) n ∧ zu (zA τ 0 12) k (zI τ 0 8) n ≤ 72057594037927936
          by_cases e : n = k
          · rw [e, pu_eq]; omega
          · rw [pu_ne e]; exact q4
      have hGA4 : G4 (zsI (zsA (zsA τ 0 12 k (zI τ 0 8)) 0 13 k 0) 0 17 (zI τ 0 17 + 1)) := by
        refine ⟨h4.1, fun s s0 s1 => ?_, fun n n0 n1 => ?_⟩
        · obtain ⟨q1, q2, q3, q4⟩ := h4.2.1 s s0 s1
          refine ⟨?_, ?_, q3, q4⟩
          · show zA τ 0 35 s < zI τ 0 17 + 1
            omega
          · show zA (zsI (zsA (zsA τ 0 12 k (zI τ 0 8)) 0 13 k 0) 0 17 (zI τ 0 17 + 1)) 0 13 (zA τ 0 35 s) = 1
            rw [a13 _ (by omega)]; exact q2
        · have n1' : n < zI τ 0 17 + 1 := n1
          by_cases e : n = k
          · rw [e, a13k]; exact ⟨fun q => absurd q (by decide), fun q => absurd q (by decide)⟩
          · rw [a13 n e]; exact h4.2.2 n n0 (by omega)
      have hGA5 : G5 (zsI (zsA (zsA τ 0 12 k (zI τ 0 8)) 0 13 k 0) 0 17 (zI τ 0 17 + 1)) := ⟨fun u u0 u1 => by
        have := h5.1 u u0 u1
        show zA τ 0 20 u < zI τ 0 17 + 1
        omega, h5.2⟩
      have hGA6 : G6 (zsI (zsA (zsA τ 0 12 k (zI τ 0 8)) 0 13 k 0) 0 17 (zI τ 0 17 + 1)) := fun hwr => ⟨(h6 hwr).1, fun n n0 n1 => by
        have n1' : n < zI τ 0 17 + 1 := n1
        by_cases e : n = k
        · rw [e, a13k]; exact fun q => absurd q (by decide)
        · rw [a13 n e]; exact (h6 hwr).2 n n0 (by omega)⟩
      have hLL : GL (zsI (zsA (zsA τ 0 12 k (zI τ 0 8)) 0 13 k 0) 0 17 (zI τ 0 17 + 1)) := ⟨l1, l2, l3, l4, l5, l6, (by show 0 ≤ zI τ 0 17 + 1 ∧ 2 * (zI τ 0 17 + 1) ≤ zI τ 0 5 + 1; omega), l8, l9, l10, l11, l12, l13, l14, l15, l16, l17, l18, l19⟩
      have hnn : Gn (zsI (zsA (zsA τ 0 12 k (zI τ 0 8)) 0 13 k 0) 0 17 (zI τ 0 17 + 1)) := fun _ t => absurd ht t
      refine ⟨by omega, by omega, fun q => absurd heq q, fun _ => ⟨by omega, by omega, fun h24 => ?_, fun h24 => ?_⟩⟩
      · refine hQ k _ hk0 (by omega) (by show k < zI τ 0 17 + 1; omega) ⟨hT, hLL, hk, hnn, ⟨fun _ => h24, hw.2⟩, hGA1, h2, h3, hGA4, hGA5, hGA6⟩ hPR hfr (Or.inr ⟨heq, fun j j0 j1 => hfs j j0 (by omega), rfl, rfl, rfl, fun _ => rfl⟩)
      · refine s_wrongAt hLL (by omega) (fun w w0 w1 => ?_)
        have hLw : GL (zsI (zsI (zsA (zsA τ 0 12 k (zI τ 0 8)) 0 13 k 0) 0 17 (zI τ 0 17 + 1)) 0 18 w) := ⟨l1, l2, l3, l4, l5, l6, (by show 0 ≤ zI τ 0 17 + 1 ∧ 2 * (zI τ 0 17 + 1) ≤ zI τ 0 5 + 1; omega), l8, l9, l10, l11, l12, (by show -1 ≤ w ∧ w ≤ 480; omega), l14, l15, l16, l17, l18, l19⟩
        have nw : ¬ zI (zsI (zsI (zsA (zsA τ 0 12 k (zI τ 0 8)) 0 13 k 0) 0 17 (zI τ 0 17 + 1)) 0 18 w) 0 18 < 0 := by show ¬ w < 0; omega
        refine hQ k _ hk0 (by omega) (by show k < zI τ 0 17 + 1; omega) ⟨hT, hLw, hk, hnn, ⟨fun q => absurd q nw, fun q => absurd q nw⟩, hGA1, h2, h3, hGA4, hGA5, fun q => absurd q nw⟩ (hPR.tr (PR_18 w0)) (hfr.ti (by decide)) (Or.inr ⟨heq, fun j j0 j1 => hfs j j0 (by omega), rfl, rfl, rfl, fun q => absurd q h24⟩)
  unfold wpbX11_name_2
  have hkn : k < zI τ 0 17 → 0 ≤ zA τ 0 12 k ∧ zA τ 0 12 k ≤ 72057594037927936 := fun q => (h1 k hk0 (by omega)).2.2.2
  refine ⟨by omega, by omega, fun q => hfin.2 (by omega), fun q => ⟨by omega, ?_, by omega, fun qe => hfin.1 (by omega) qe, fun qn => hP _ _ ⟨rfl, by omega, by omega, fun j j0 j1 => by
    by_cases ej : j = k
    · rw [ej]; exact qn
    · exact hfs j j0 (by omega)⟩ (by omega)⟩⟩
  have := hkn (by omega)
  omega
/-- the reference's use -/
def xU (σ τ : ZS) (a n : Int) : Prop := zI τ 0 23 = zI σ 0 23 + 1 ∧ zA τ 0 19 = zu (zA σ 0 19) (zI σ 0 23) a ∧ zA τ 0 20 = zu (zA σ 0 20) (zI σ 0 23) n ∧ zA τ 0 22 = zu (zA σ 0 22) (zI σ 0 23) (zI σ 0 32)
theorem x_use {σ : ZS} {a n p : Int} {Q : ZS → Prop} (hG : GG σ) (ha : 0 ≤ a ∧ a ≤ 4) (hn : 0 ≤ n ∧ n < 240 ∧ n < zI σ 0 17) (hp : 0 ≤ p ∧ p ≤ 480) (hu : zI σ 0 23 + 1 ≤ zI σ 0 5 ∧ zI σ 0 23 < 480) (hc : a = 0 → 7 * (cntP (zA σ 0 19) (zI σ 0 23).toNat + 1) ≤ zI σ 0 5) (hQ : ∀ τ : ZS, GG τ → PR σ τ → fr [23] [19, 20, 21, 22] σ τ → (a = 1 ∨ a = 4 → hasUse τ n) → xU σ τ a n → Q τ) : wpX11_use a n p σ Q := by
  have g := s_use (Q := fun τ => GG τ ∧ PR σ τ ∧ fr [23] [19, 20, 21, 22] σ τ ∧ (a = 1 ∨ a = 4 → hasUse τ n)) hG ha hn hp hu hc (fun τ a b c d e => ⟨a, b, c, e⟩)
  unfold wpX11_use at g ⊢
  obtain ⟨g0, g1, g2, g3, g4⟩ := g
  exact ⟨g0, hQ _ g1 g2 g3 g4 ⟨rfl, rfl, rfl, rfl⟩⟩
theorem YU.add {ρ τ : ZS} {u : UD} {c k n : Int} (h : YU ρ u) (h0 : 0 ≤ zI ρ 0 23) (hx : xU ρ τ k n) (hc : zI ρ 0 32 = c) : YU τ (uA u c k n) := by
  obtain ⟨x1, x2, x3, x4⟩ := hx
  refine ⟨by rw [x1, h.1]; rfl, fun i i0 i1 => ?_⟩
  have i1' : i < u.nu + 1 := i1
  rw [x2, x3, x4]
  show _ = zu u.uk u.nu k i ∧ _ = zu u.un u.nu n i ∧ _ = zu u.us u.nu c i
  rw [h.1]
  by_cases e : i = u.nu
  · rw [e, pu_eq, pu_eq, pu_eq, pu_eq, pu_eq, pu_eq, hc]; exact ⟨rfl, rfl, rfl⟩
  · rw [pu_ne e, pu_ne e, pu_ne e, pu_ne e, pu_ne e, pu_ne e]; exact h.2 i i0 (by omega)
theorem YU.k {ρ τ : ZS} {u : UD} (h : YU ρ u) (e23 : zI τ 0 23 = zI ρ 0 23) (e19 : zA τ 0 19 = zA ρ 0 19) (e20 : zA τ 0 20 = zA ρ 0 20) (e22 : zA τ 0 22 = zA ρ 0 22) : YU τ u := by
  unfold YU; rw [e23, e19, e20, e22]; exact h
theorem YN.k {ρ τ : ZS} {m : Int} {d : YD} (h : YN ρ m d) (e13 : zA τ 0 13 = zA ρ 0 13) (e14 : zA τ 0 14 = zA ρ 0 14) (e15 : zA τ 0 15 = zA ρ 0 15) (e35 : zA τ 0 35 = zA ρ 0 35) (e34 : zI τ 0 34 = zI ρ 0 34) (e32 : zI τ 0 32 = zI ρ 0 32) (e18 : zI τ 0 18 = zI ρ 0 18) : YN τ m d := by
  unfold YN; rw [e13, e14, e15, e35, e34, e32, e18]; exact h
theorem YP.k {ρ τ : ZS} {d : YD} (h : YP ρ d) (e31 : zI τ 0 31 = zI ρ 0 31) (e24 : zA τ 0 24 = zA ρ 0 24) (e25 : zA τ 0 25 = zA ρ 0 25) (e26 : zA τ 0 26 = zA ρ 0 26) (e28 : zA τ 0 28 = zA ρ 0 28) : YP τ d := by
  unfold YP; rw [e31, e24, e25, e26, e28]; exact h
/-- the reference's piece -/
def xP (σ τ : ZS) (k a b : Int) : Prop := zI τ 0 31 = zI σ 0 31 + 1 ∧ zA τ 0 24 = zu (zA σ 0 24) (zI σ 0 31) k ∧ zA τ 0 25 = zu (zA σ 0 25) (zI σ 0 31) a ∧ zA τ 0 26 = zu (zA σ 0 26) (zI σ 0 31) b ∧ zA τ 0 28 = zu (zA σ 0 28) (zI σ 0 31) (zI σ 0 32)
theorem x_piece {σ : ZS} {k a b p : Int} {Q : ZS → Prop} (hG : GG σ) (hs : zI σ 0 33 = 1) (hp9 : zI σ 0 31 + 1 ≤ 2 * zI σ 0 6 + 8) (hk9 : 0 ≤ k ∧ k ≤ 8) (hn : 2 ≤ k → k ≤ 7 → 0 ≤ a ∧ a < 240) (h8 : k = 8 → 0 ≤ a ∧ a ≤ 64) (ha : -20000000 ≤ a ∧ a ≤ 20000000) (hb : -20000000 ≤ b ∧ b ≤ 20000000) (hp : 0 ≤ p ∧ p ≤ 480) (hu : k = 2 ∨ k = 3 → hasUse σ a) (hQ : ∀ τ : ZS, Em 1 σ τ → xP σ τ k a b → Q τ) : wpX11_piece k a b p σ Q := by
  have g := s_piece (Q := fun τ => Em 1 σ τ) hG hs hp9 hk9 hn h8 ha hb hp hu (fun τ a => a)
  unfold wpX11_piece at g ⊢
  exact ⟨g.1, hQ _ g.2 ⟨rfl, rfl, rfl, rfl, rfl⟩⟩
theorem x_octet {σ : ZS} {b : Int} {Q : ZS → Prop} (hG : GG σ) (hs : zI σ 0 33 = 1) (hp9 : zI σ 0 31 + 1 ≤ 2 * zI σ 0 6 + 8) (hb : -20000000 ≤ b ∧ b ≤ 20000000) (hQ : ∀ τ : ZS, Em 1 σ τ → xP σ τ 0 b 0 → Q τ) : wpX11_octet b σ Q := by
  unfold wpX11_octet
  exact x_piece hG hs hp9 (by decide) (fun q => absurd q (by decide)) (fun q => absurd q (by decide)) hb (by decide) (by decide) (fun q => by omega) hQ
theorem YP.add {ρ τ : ZS} {d : YD} {k a b : Int} (h : YP ρ d) (h0 : 0 ≤ zI ρ 0 31) (hx : xP ρ τ k a b) (hc : zI ρ 0 32 = d.cur) : YP τ (yP d k a b) := by
  obtain ⟨x1, x2, x3, x4, x5⟩ := hx
  refine ⟨by rw [x1, h.1]; rfl, fun i i0 i1 => ?_⟩
  have i1' : i < d.np + 1 := i1
  rw [x2, x3, x4, x5]
  show _ = zu d.pk d.np k i ∧ _ = zu d.pa d.np a i ∧ _ = zu d.pb d.np b i ∧ _ = zu d.ps d.np d.cur i
  rw [h.1]
  by_cases e : i = d.np
  · rw [e, pu_eq, pu_eq, pu_eq, pu_eq, pu_eq, pu_eq, pu_eq, pu_eq, hc]; exact ⟨rfl, rfl, rfl, rfl⟩
  · rw [pu_ne e, pu_ne e, pu_ne e, pu_ne e, pu_ne e, pu_ne e, pu_ne e, pu_ne e]; exact h.2 i i0 (by omega)
/-! X: the reference's small steps at a token of the class -/
theorem RDx.k {h : Int → Int} {L : Int} {E M : Int → Int} {σ τ : ZS} (k : RDx h L σ E M) (e : ob τ 11 = ob σ 11) (e' : ob τ 12 = ob σ 12) : RDx h L τ E M := by
  obtain ⟨⟨a, b, c, d⟩, k2, k3, k4, k5, k6, k7⟩ := k
  refine ⟨⟨a.k e, b.k e, c.k e, d.k e e'⟩, ?_, ?_, ?_, ?_, ?_, ?_⟩
  · unfold TKS; rw [ob_I e' 3, ob_A e' 0, ob_A e' 1, ob_A e' 2, ob_A e 0]; exact k2
  · rw [ob_I e' 3]; exact k3
  · rw [ob_I e' 3, ob_A e' 0]; exact k4
  · rw [ob_I e' 3, ob_A e' 0]; exact k5
  · rw [ob_I e' 3, ob_I e 5]; exact k6
  · unfold NDs; rw [ob_I e 5, ob_I e 6, ob_A e 0]; exact k7
/-- a text read: its tokens stand in σ -/
def CT (h : Int → Int) (L : Int) (E M : Int → Int) (σ : ZS) : Prop := RDx h L σ E M ∧ ∀ j : Int, 0 ≤ j → j < L → h j ≤ 126
theorem CT.k {h : Int → Int} {L : Int} {E M : Int → Int} {σ τ : ZS} (k : CT h L E M σ) (e : ob τ 11 = ob σ 11) (e' : ob τ 12 = ob σ 12) : CT h L E M τ := ⟨k.1.k e e', k.2⟩
theorem TKS.mM {σ : ZS} {h : Int → Int} {L n : Int} {E M : Int → Int} (k : TKS σ h L n E M) (i : Int) (i0 : 0 ≤ i) : ∀ j : Nat, i + j ≤ n → M i ≤ M (i + j)
  | 0, _ => by rw [show i + ((0 : Nat) : Int) = i by omega]; exact Int.le_refl _
  | j + 1, hj => by
    have ih := k.mM i i0 j (by omega)
    obtain ⟨-, -, -, d⟩ := k.2.2 (i + j) (by omega) (by omega)
    rw [show i + ((j + 1 : Nat) : Int) = i + j + 1 by omega]
    rcases d with ⟨-, ⟨-, -, d⟩ | ⟨-, d⟩⟩ | ⟨-, d⟩ <;> omega
theorem CT.mN {h : Int → Int} {L : Int} {E M : Int → Int} {σ : ZS} (k : CT h L E M σ) {i : Int} (i0 : 0 ≤ i) (i1 : i ≤ zI σ 12 3) : M i ≤ zI σ 11 5 := by
  have := k.1.2.1.mM i i0 (zI σ 12 3 - i).toNat (by omega)
  rw [show i + ((zI σ 12 3 - i).toNat : Int) = zI σ 12 3 by omega, k.1.2.2.2.2.2.1] at this
  exact this
theorem CT.on {h : Int → Int} {L : Int} {E M : Int → Int} {σ : ZS} (k : CT h L E M σ) {i : Int} (i0 : 0 ≤ i) (i1 : i < zI σ 12 3) (hn : zA σ 12 0 i ≠ 0) : i + 1 < zI σ 12 3 := by
  by_cases q : i = zI σ 12 3 - 1
  · rw [q] at hn; exact absurd k.1.2.2.2.1 hn
  · omega
/-- what the token says on both sides -/
theorem TM.f {ρ : ZS} {t v : Int} {nw : Int → Int} (k : TM ρ t v nw) : (t = 0 ↔ zI ρ 0 7 = 0) ∧ (t = 2 ↔ zI ρ 0 7 = 2) ∧ (t = 2 → zI ρ 0 10 = v) ∧ (t = 3 ↔ zI ρ 0 7 = 1 ∧ zI ρ 0 9 = -1) ∧ (t = 4 ↔ zI ρ 0 7 = 1 ∧ 0 ≤ zI ρ 0 9 ∧ zI ρ 0 9 < 8) ∧ (t = 4 → zI ρ 0 9 = v) ∧ (t = 5 ↔ zI ρ 0 7 = 1 ∧ 8 ≤ zI ρ 0 9 ∧ zI ρ 0 9 < 12) ∧ (t = 5 → zI ρ 0 9 = v + 8) ∧ (t = 6 ↔ zI ρ 0 7 = 1 ∧ 12 ≤ zI ρ 0 9) ∧ (t = 6 → zI ρ 0 9 = v + 12 ∧ 0 ≤ v ∧ v < 36) ∧ (zI ρ 0 7 = 1 → -1 ≤ zI ρ 0 9 ∧ zI ρ 0 9 < 48) := by
  unfold TM cS at k
  rcases k with k | k | k | ⟨a, b, c, d⟩ | k | k | k | k <;> omega
theorem TM.sg {ρ : ZS} {t v a : Int} {nw : Int → Int} (k : TM ρ t v nw) (h : cS a) : zI ρ 0 7 = a ↔ t = a := by
  unfold TM at k
  unfold cS at k h
  rcases k with k | k | k | ⟨a, b, c, d⟩ | k | k | k | k <;> omega
theorem TM.k {ρ τ : ZS} {t v : Int} {nw : Int → Int} (k : TM ρ t v nw) (e7 : zI τ 0 7 = zI ρ 0 7) (e8 : zI τ 0 8 = zI ρ 0 8) (e9 : zI τ 0 9 = zI ρ 0 9) (e10 : zI τ 0 10 = zI ρ 0 10) : TM τ t v nw := by
  unfold TM; rw [e7, e8, e9, e10]; exact k
theorem TM.w {ρ : ZS} {t v : Int} {nw : Int → Int} (k : TM ρ t v nw) (h : t = 3) : RW (zI ρ 0 8) (nw v) := by
  unfold TM cS at k
  rcases k with k | k | k | ⟨a, b, c, d⟩ | k | k | k | k
  · omega
  · omega
  · omega
  · exact d
  · omega
  · omega
  · omega
  · omega
theorem SY.fr {h : Int → Int} {L i : Int} {E : Int → Int} {σ ρ τ : ZS} {fs as : List Nat} (k : SY h L E σ i ρ) (f : fr fs as ρ τ) (h2 : 2 ∉ fs) (h5 : 5 ∉ fs) (h6 : 6 ∉ fs) (h7 : 7 ∉ fs) (h8 : 8 ∉ fs) (h9 : 9 ∉ fs) (h10 : 10 ∉ fs) (h1 : 1 ∉ as) : SY h L E σ i τ := by
  obtain ⟨a, b, c, d, e⟩ := k
  exact ⟨(f.1 2 h2).trans a, fun j j0 j1 => by rw [f.2 1 h1]; exact b j j0 j1, (f.1 5 h5).trans c, (f.1 6 h6).trans d, e.k (f.1 7 h7) (f.1 8 h8) (f.1 9 h9) (f.1 10 h10)⟩
theorem SY.k {h : Int → Int} {L i : Int} {E : Int → Int} {σ σ' ρ : ZS} (k : SY h L E σ i ρ) (e : ob σ' 11 = ob σ 11) (e' : ob σ' 12 = ob σ 12) : SY h L E σ' i ρ := by
  unfold SY; rw [ob_A e' 0, ob_A e' 1, ob_A e' 2, ob_A e 0]; exact k
/-- the uses that are noted, but whose item is still to come -/
def pU (d : YD) (pend : List Int) : UD := pend.foldl (fun u n => uA u d.cur 1 n) d.u
/-- what is noted, on both sides -/
def RB (σ ρ : ZS) (m : Int) (pend : List Int) : Prop := GG ρ ∧ (zI ρ 0 17 = m ∧ ∀ n : Int, 0 ≤ n → n < m → RW (zA ρ 0 12 n) (zA σ 11 0 n)) ∧ zI ρ 0 33 = zI σ 14 5 ∧ (zI σ 11 5 ≤ 24 → YN ρ m (yS σ) ∧ YP ρ (yS σ) ∧ YU ρ (pU (yS σ) pend))
theorem RB.k {σ σ' ρ : ZS} {m : Int} {pend : List Int} (k : RB σ ρ m pend) (e11 : ob σ' 11 = ob σ 11) (e13 : ob σ' 13 = ob σ 13) (e5 : zI σ' 14 5 = zI σ 14 5) : RB σ' ρ m pend := by
  unfold RB; rw [ob_I e11 5, ob_A e11 0, yS.k e13, e5]; exact k
/-- steps that change nothing noted -/
theorem RB.fr {σ ρ τ : ZS} {m : Int} {pend : List Int} {fs : List Nat} (k : RB σ ρ m pend) (hG : GG τ) (f : fr fs [] ρ τ) (h17 : 17 ∉ fs) (h33 : 33 ∉ fs) (h34 : 34 ∉ fs) (h32 : 32 ∉ fs) (h18 : 18 ∉ fs) (h31 : 31 ∉ fs) (h23 : 23 ∉ fs) : RB σ τ m pend := by
  obtain ⟨a, b, c, d⟩ := k
  have A : ∀ x : Nat, zA τ 0 x = zA ρ 0 x := fun x => f.2 x (by simp)
  refine ⟨hG, ⟨(f.1 17 h17).trans b.1, fun n n0 n1 => by rw [A]; exact b.2 n n0 n1⟩, (f.1 33 h33).trans c, fun q => ?_⟩
  obtain ⟨d1, d2, d3⟩ := d q
  exact ⟨d1.k (A _) (A _) (A _) (A _) (f.1 34 h34) (f.1 32 h32) (f.1 18 h18), d2.k (f.1 31 h31) (A _) (A _) (A _) (A _), d3.k (f.1 23 h23) (A _) (A _) (A _)⟩
theorem r_next {h : Int → Int} {L i m : Int} {E M : Int → Int} {σ ρ : ZS} {pend : List Int} {Q : ZS → Prop} (hC : CT h L E M σ) (i0 : 0 ≤ i) (i1 : i < zI σ 12 3) (hS : SY h L E σ i ρ) (hB : RB σ ρ m pend) (hn : zA σ 12 0 i ≠ 0) (hQ : ∀ τ : ZS, SY h L E σ (i + 1) τ → RB σ τ m pend → Fresh τ → fr [5, 6, 7, 8, 9, 10] [] ρ τ → PR ρ τ → zI ρ 0 6 + 1 ≤ zI τ 0 6 → zI ρ 0 5 ≤ zI τ 0 6 → Q τ) : wpX11_next ρ Q := by
  have hG := hB.1
  refine s_nextG hG (fun τ g pr f nx s5 _ fs => ?_)
  have hi := hC.on i0 i1 hn
  have hlt := hG.2.2.1.2.1 (fun q => hn (hS.2.2.2.2.f.1.mpr q))
  refine hQ τ (SY_nxt hC.1.2.1 (by omega) hi hS.1 hS.2.1 hG.1.2.2 hC.2 hS.2.2.1 nx) (hB.fr g f (by decide) (by decide) (by decide) (by decide) (by decide) (by decide) (by decide)) fs f pr (by omega) s5
theorem r_take {h : Int → Int} {L i m a : Int} {E M : Int → Int} {σ ρ : ZS} {pend : List Int} {Q : Int → ZS → Prop} (hC : CT h L E M σ) (i0 : 0 ≤ i) (i1 : i < zI σ 12 3) (hS : SY h L E σ i ρ) (hB : RB σ ρ m pend) (ha : cS a) (h1 : zA σ 12 0 i = a → ∀ τ : ZS, SY h L E σ (i + 1) τ → RB σ τ m pend → Fresh τ → fr [5, 6, 7, 8, 9, 10] [] ρ τ → PR ρ τ → zI ρ 0 6 + 1 ≤ zI τ 0 6 → zI ρ 0 5 ≤ zI τ 0 6 → Q 1 τ) (h0 : zA σ 12 0 i ≠ a → Q 0 (zsI (zsI ρ 0 3 1) 0 4 (zI ρ 0 6))) : wpX11_take a ρ Q := by
  have hm := hS.2.2.2.2.sg ha
  have hl := hB.1.2.1.2.2.1
  unfold wpX11_take
  refine ⟨by omega, by unfold cS at ha; omega, fun q => r_next hC i0 i1 hS hB ?_ (h1 (hm.mp q)), fun q => s_fault ⟨by decide, h0 (fun z => q (hm.mpr z))⟩⟩
  have := hm.mp q
  unfold cS at ha
  omega
theorem r_isName {h : Int → Int} {L i : Int} {E : Int → Int} {σ ρ : ZS} {Q : Int → ZS → Prop} (hL : GL ρ) (hS : SY h L E σ i ρ) (h1 : zA σ 12 0 i = 3 → Q 1 ρ) (h0 : zA σ 12 0 i ≠ 3 → Q 0 ρ) : wpX11_isName ρ Q := by
  have f := hS.2.2.2.2.f
  have a := hL.2.2.1
  have b := hL.2.2.2.1
  unfold wpX11_isName wpX11_isName_19 wpX11_isName_20
  exact ⟨by omega, fun q => ⟨by decide, h0 (fun z => by omega)⟩, fun q => ⟨by omega, fun w => ⟨by decide, h0 (fun z => by omega)⟩, fun w => ⟨by decide, h1 (by omega)⟩⟩⟩
theorem r_isWord {ρ : ZS} {a b : Int} {Q : Int → ZS → Prop} (hL : GL ρ) (hab : -1000 ≤ a ∧ a ≤ 1000 ∧ -1000 ≤ b ∧ b ≤ 1000) (h1 : zI ρ 0 7 = 1 ∧ a ≤ zI ρ 0 9 ∧ zI ρ 0 9 ≤ b → Q 1 ρ) (h0 : ¬ (zI ρ 0 7 = 1 ∧ a ≤ zI ρ 0 9 ∧ zI ρ 0 9 ≤ b) → Q 0 ρ) : wpX11_isWord a b ρ Q := by
  have p := hL.2.2.1
  have q := hL.2.2.2.1
  unfold wpX11_isWord wpX11_isWord_28 wpX11_isWord_29
  exact ⟨by omega, fun x => ⟨by decide, h0 (by omega)⟩, fun x => ⟨by omega, by omega, fun y => ⟨by decide, h0 (by omega)⟩, fun y => ⟨by omega, fun z => ⟨by decide, h0 (by omega)⟩, fun z => ⟨by decide, h1 (by omega)⟩⟩⟩⟩
/-- the name that is the token, on both sides the same number -/
theorem r_name {h : Int → Int} {L i : Int} {E M : Int → Int} {σ ρ : ZS} {pend : List Int} {Q : Int → ZS → Prop} (hC : CT h L E M σ) (i0 : 0 ≤ i) (i1 : i < zI σ 12 3) (hS : SY h L E σ i ρ) (hB : RB σ ρ (M i) pend) (hF : Fresh ρ) (ht : zA σ 12 0 i = 3) (hQ : ∀ τ : ZS, SY h L E σ i τ → RB σ τ (M (i + 1)) pend → fr [17, 18] [12, 13] ρ τ → PR ρ τ → (0 ≤ zA σ 12 1 i ∧ zA σ 12 1 i < 240 ∧ zA σ 12 1 i < zI τ 0 17) → Q (zA σ 12 1 i) τ) : wpX11_name ρ Q := by
  obtain ⟨hG, ⟨b1, b2⟩, b3, b4⟩ := hB
  have t := hS.2.2.2.2.f
  have w := hS.2.2.2.2.w ht
  have hND := hC.1.2.2.2.2.2.2.1
  have hN := hC.mN i0 (by omega)
  have hN1 := hC.mN (i := i + 1) (by omega) (by omega)
  obtain ⟨-, -, m0, d⟩ := hC.1.2.1.2.2 i i0 i1
  have tk := (hC.1.1.2.2.2.2 i i0 i1)
  have vN := tk.2.2.2 ht
  have v0 := tk.2.1.1
  refine x_name hG (t.2.2.2.1.mp ht).1 hF (fun n τ n0 n1 n2 g pr f hx => ?_)
  have dd : (zA σ 12 1 i < M i ∧ M (i + 1) = M i) ∨ (zA σ 12 1 i = M i ∧ M (i + 1) = M i + 1) := by
    rcases d with ⟨-, ⟨-, d1, d2⟩ | ⟨d1, d2⟩⟩ | ⟨d1, -⟩
    · exact Or.inl ⟨d1, d2⟩
    · exact Or.inr ⟨d1, d2⟩
    · exact absurd ht d1
  have sy : SY h L E σ i τ := hS.fr f (by decide) (by decide) (by decide) (by decide) (by decide) (by decide) (by decide) (by decide)
  rcases hx with ⟨x1, x2, x3⟩ | ⟨x1, x2, x3, x4, x5, x6⟩
  · have en : n = zA σ 12 1 i := hND n _ n0 (by omega) v0 vN (((b2 n n0 (by omega)).iff w).mp x2)
    have e1 : M (i + 1) = M i := by omega
    subst x3
    rw [en] at n1 n2 ⊢
    refine hQ _ sy ?_ f pr ⟨v0, n1, n2⟩
    rw [e1]
    exact ⟨hG, ⟨b1, b2⟩, b3, b4⟩
  · have nv : ¬ zA σ 12 1 i < M i := fun q => x2 _ v0 (by omega) (((b2 _ v0 q).iff w).mpr rfl)
    have e1 : zA σ 12 1 i = M i ∧ M (i + 1) = M i + 1 := by omega
    have en : n = zA σ 12 1 i := by omega
    rw [en] at n1 n2 x4 x5 ⊢
    refine hQ _ sy ⟨g, ⟨by omega, fun k k0 k1 => ?_⟩, ?_, fun q => ?_⟩ f pr ⟨v0, n1, n2⟩
    · rw [x4]
      by_cases ek : k = zA σ 12 1 i
      · rw [ek, pu_eq]; exact w
      · rw [pu_ne ek]; exact b2 k k0 (by omega)
    · rw [f.1 33 (by decide)]; exact b3
    · obtain ⟨⟨c1, c2, c3, c4, c5, c6⟩, cp, cu⟩ := b4 q
      refine ⟨⟨fun k k0 k1 => ?_, fun k k0 => c2 k (by omega), ?_, ?_, ?_, ?_⟩, cp.k (f.1 31 (by decide)) (f.2 24 (by decide)) (f.2 25 (by decide)) (f.2 26 (by decide)) (f.2 28 (by decide)), cu.k (f.1 23 (by decide)) (f.2 19 (by decide)) (f.2 20 (by decide)) (f.2 22 (by decide))⟩
      · rw [x5, f.2 14 (by decide), f.2 15 (by decide)]
        by_cases ek : k = zA σ 12 1 i
        · have z := c2 k (by omega)
          rw [z, ek, pu_eq]
          exact ⟨rfl, fun q => by omega, fun q => by omega⟩
        · rw [pu_ne ek]; exact c1 k k0 (by omega)
      · rw [f.1 34 (by decide)]; exact c3
      · rw [f.2 35 (by decide)]; exact c4
      · rw [f.1 32 (by decide)]; exact c5
      · rw [x6 (by omega)]; exact c6
/-- a use whose item is still to come -/
theorem r_use {h : Int → Int} {L i m n p : Int} {E : Int → Int} {σ ρ : ZS} {pend : List Int} {Q : ZS → Prop} (hS : SY h L E σ i ρ) (hB : RB σ ρ m pend) (hn : 0 ≤ n ∧ n < 240 ∧ n < zI ρ 0 17) (hp : 0 ≤ p ∧ p ≤ 480) (hu : zI ρ 0 23 + 1 ≤ zI ρ 0 5 ∧ zI ρ 0 23 < 480) (hQ : ∀ τ : ZS, SY h L E σ i τ → RB σ τ m (pend ++ [n]) → fr [23] [19, 20, 21, 22] ρ τ → PR ρ τ → hasUse τ n → Q τ) : wpX11_use 1 n p ρ Q := by
  obtain ⟨hG, b1, b3, b4⟩ := hB
  refine x_use hG (by decide) hn hp hu (fun q => absurd q (by decide)) (fun τ g pr f hs hx => ?_)
  refine hQ τ (hS.fr f (by decide) (by decide) (by decide) (by decide) (by decide) (by decide) (by decide) (by decide)) ⟨g, ?_, ?_, fun q => ?_⟩ f pr (hs (Or.inl rfl))
  · rw [f.1 17 (by decide), f.2 12 (by decide)]; exact b1
  · rw [f.1 33 (by decide)]; exact b3
  · obtain ⟨c1, c2, c3⟩ := b4 q
    refine ⟨c1.k (f.2 13 (by decide)) (f.2 14 (by decide)) (f.2 15 (by decide)) (f.2 35 (by decide)) (f.1 34 (by decide)) (f.1 32 (by decide)) (f.1 18 (by decide)), c2.k (f.1 31 (by decide)) (f.2 24 (by decide)) (f.2 25 (by decide)) (f.2 26 (by decide)) (f.2 28 (by decide)), ?_⟩
    unfold pU at c3 ⊢
    rw [List.foldl_append]
    exact c3.add (by have := hG.2.1.2.2.2.2.2.2.2.1; omega) hx c1.2.2.2.2.1
