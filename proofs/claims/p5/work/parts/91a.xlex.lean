/-! X: the words of the class, exactly -/
theorem wv_inj {h g : Int → Int} {s b : Int} : ∀ n m : Nat, (∀ j : Nat, j < n → 0 < h (s + j) ∧ h (s + j) < 256) → (∀ j : Nat, j < m → 0 < g (b + j) ∧ g (b + j) < 256) → wv h s n = wv g b m → n = m ∧ ∀ j : Nat, j < n → h (s + j) = g (b + j)
  | 0, 0, _, _, _ => ⟨rfl, fun j hj => absurd hj (Nat.not_lt_zero j)⟩
  | 0, m + 1, _, hg, e => by
    have h1 := hg m (by omega)
    have e' : (0 : Int) = wv g b m * 256 + g (b + m) := e
    have := wv_bd (h := g) (s := b) m (fun j a c => by have := hg (j - b).toNat (by omega); rw [show b + ((j - b).toNat : Int) = j by omega] at this; omega)
    omega
  | n + 1, 0, hh, _, e => by
    have h1 := hh n (by omega)
    have e' : wv h s n * 256 + h (s + n) = (0 : Int) := e
    have := wv_bd (h := h) (s := s) n (fun j a c => by have := hh (j - s).toNat (by omega); rw [show s + ((j - s).toNat : Int) = j by omega] at this; omega)
    omega
  | n + 1, m + 1, hh, hg, e => by
    have h1 := hh n (by omega)
    have g1 := hg m (by omega)
    have e' : wv h s n * 256 + h (s + n) = wv g b m * 256 + g (b + m) := e
    obtain ⟨en, ej⟩ := wv_inj n m (fun j hj => hh j (by omega)) (fun j hj => hg j (by omega)) (by omega)
    refine ⟨by omega, fun j hj => ?_⟩
    by_cases q : j = n
    · subst en; rw [q]; omega
    · exact ej j (by omega)
theorem wv_cg {h g : Int → Int} {s b : Int} : ∀ n : Nat, (∀ j : Nat, j < n → h (s + j) = g (b + j)) → wv h s n = wv g b n
  | 0, _ => rfl
  | n + 1, hh => by
    show wv h s n * 256 + h (s + n) = wv g b n * 256 + g (b + n)
    rw [wv_cg n (fun j hj => hh j (by omega)), hh n (by omega)]
def xch (n : Nat) (i : Int) : Int := zby n i % 256 % 65536
def xb1 (k : Nat) : Nat := ([0, 3, 6, 9, 12, 15, 18, 21, 24] : List Nat).getD k 0
def xl1 (k : Nat) : Nat := xb1 (k + 1) - 1 - xb1 k
theorem x_Fa1 : ∀ k : Nat, k < 8 → xl1 k ≤ 6 ∧ xb1 (k + 1) = xb1 k + xl1 k + 1 ∧ wv (xch 1) (xb1 k : Nat) (xl1 k) = zwords ((0 + k : Nat) : Int) := by decide +kernel
def xm1 (k m : Nat) : Bool := decide (xb1 k + m ≤ 23) && (decide (xb1 k + m ≠ 23) && decide (xch 1 ((xb1 k + m : Nat) : Int) ≠ 32) && decide (0 < xch 1 ((xb1 k + m : Nat) : Int)) && decide (xch 1 ((xb1 k + m : Nat) : Int) < 256) || decide (xl1 k ≤ m)) && (decide (xb1 k + m = 23) || decide (xch 1 ((xb1 k + m : Nat) : Int) = 32) || decide (m < xl1 k))
theorem x_Fb1 : ∀ k : Nat, k < 8 → ∀ m : Nat, m < 7 → (decide (xl1 k < m) || xm1 k m) = true := by decide +kernel
theorem x_F1 (k : Nat) (hk : k < 8) : xl1 k ≤ 6 ∧ xb1 (k + 1) = xb1 k + xl1 k + 1 ∧ wv (xch 1) (xb1 k : Nat) (xl1 k) = zwords ((0 + k : Nat) : Int) ∧ ∀ m : Nat, m < 7 → m ≤ xl1 k → xb1 k + m ≤ 23 ∧ (m < xl1 k → xb1 k + m ≠ 23 ∧ xch 1 ((xb1 k + m : Nat) : Int) ≠ 32 ∧ 0 < xch 1 ((xb1 k + m : Nat) : Int) ∧ xch 1 ((xb1 k + m : Nat) : Int) < 256) ∧ (m = xl1 k → xb1 k + m = 23 ∨ xch 1 ((xb1 k + m : Nat) : Int) = 32) := by
  obtain ⟨a, b, c⟩ := x_Fa1 k hk
  refine ⟨a, b, c, fun m hm hl => ?_⟩
  have d := x_Fb1 k hk m hm
  unfold xm1 at d
  simp only [Bool.or_eq_true, Bool.and_eq_true, decide_eq_true_eq] at d
  omega
theorem x_ordinal1 {σ : ZS} {s e : Int} {Q : Int → ZS → Prop} (hX : TX σ) (hb : 0 ≤ s ∧ s ≤ e ∧ e ≤ 480) (hp : ∀ j : Int, s ≤ j → j < e → 0 < zA σ 10 0 j) (hQ : ∀ x : Int, ((x = -1 ∧ ∀ k : Nat, k < 8 → zwords ((0 + k : Nat) : Int) ≠ wv (zA σ 10 0) s (e - s).toNat) ∨ (∃ k : Nat, x = k ∧ k < 8 ∧ zwords ((0 + k : Nat) : Int) = wv (zA σ 10 0) s (e - s).toNat)) → Q x σ) : wpX9_ordinal_S1 s e σ Q := by
  have hh : ∀ n : Nat, s + n ≤ e → ∀ j : Nat, j < n → 0 < zA σ 10 0 (s + j) ∧ zA σ 10 0 (s + j) < 256 := fun n hn j hj => by
    have := hp (s + j) (by omega) (by omega)
    have := hX.2.1 (s + j) (by omega) (by omega)
    omega
  unfold wpX9_ordinal_S1 wpX9_ordinal_S1_12
  refine lfp4_ind (fun _ _ _ v _ => (24 - v).toNat) (fun v4 v5 v6 v7 τ => τ = σ ∧ ∃ k m : Nat, v4 = k ∧ v5 = m ∧ v7 = ((xb1 k + m : Nat) : Int) ∧ ((k < 8 ∧ m ≤ xl1 k ∧ (0 ≤ v6 ∧ v6 ≤ 1) ∧ (¬ v6 = 0 ↔ ∀ j : Nat, j < m → s + j < e ∧ zA σ 10 0 (s + j) = xch 1 ((xb1 k : Nat) + j))) ∨ (k = 8 ∧ m = 0)) ∧ ∀ k' : Nat, k' < k → zwords ((0 + k' : Nat) : Int) ≠ wv (zA σ 10 0) s (e - s).toNat) (fun K v4 v5 v6 v7 τ hI ih => ?_) ⟨rfl, 0, 0, rfl, rfl, rfl, Or.inl ⟨by decide, Nat.zero_le _, by decide, fun _ j hj => absurd hj (Nat.not_lt_zero j), fun _ => by decide⟩, fun k' hk => absurd hk (Nat.not_lt_zero k')⟩
  obtain ⟨e0, k, m, h4, h5, h7, hc, hn⟩ := hI
  rw [e0]
  unfold wpbX9_ordinal_S1_12
  refine c_len1 ?_
  rcases hc with ⟨hk, hm, h6, hv⟩ | ⟨hk, hm⟩
  rotate_left
  · have e7 : v7 = 24 := by rw [h7, hk, hm]; rfl
    rw [e7]
    exact ⟨by decide, by decide, fun _ => hQ _ (Or.inl ⟨rfl, fun k' h' => hn k' (by omega)⟩), fun a => absurd (by decide) a⟩
  obtain ⟨f6, fb, fw, fm⟩ := x_F1 k hk
  obtain ⟨m1, m2, m3⟩ := fm m (by omega) hm
  have end0 : m = xl1 k → wpX9_ordinal_S1_41 K s e v4 v5 v6 v7 σ Q := by
    intro q
    have nx : (v6 = 0 ∨ ¬ s + v5 = e) → K (v4 + 1) 0 1 (v7 + 1) σ := by
      intro hz
      have hne : zwords ((0 + k : Nat) : Int) ≠ wv (zA σ 10 0) s (e - s).toNat := by
        intro ee
        rw [← fw] at ee
        obtain ⟨en, ej⟩ := wv_inj (xl1 k) (e - s).toNat (fun j hj => ((fm j (by omega) (by omega)).2.1 hj).2.2) (hh (e - s).toNat (by omega)) ee
        rcases hz with hz | hz
        · exact absurd hz (hv.mpr (fun j hj => ⟨by omega, (ej j (by omega)).symm⟩))
        · exact hz (by omega)
      refine ih _ _ _ _ _ ⟨rfl, k + 1, 0, by omega, rfl, by omega, ?_, fun k' hk' => ?_⟩ (by omega)
      · by_cases qk : k + 1 < 8
        · exact Or.inl ⟨qk, Nat.zero_le _, by decide, fun _ j hj => absurd hj (Nat.not_lt_zero j), fun _ => by decide⟩
        · exact Or.inr ⟨by omega, rfl⟩
      · by_cases qk : k' = k
        · rw [qk]; exact hne
        · exact hn k' (by omega)
    unfold wpX9_ordinal_S1_41 wpX9_ordinal_S1_57 wpX9_ordinal_S1_107
    refine ⟨by omega, fun z => nx (Or.inl z), fun z => ⟨by omega, by omega, fun y => nx (Or.inr y), fun y => hQ _ (Or.inr ⟨k, h4, hk, ?_⟩)⟩⟩
    rw [show (e - s).toNat = xl1 k by omega, ← fw]
    exact (wv_cg _ (fun j hj => (hv.mp z j (by omega)).2)).symm
  have nxt0 : ∀ c : Int, m < xl1 k → ((c = 1 ∧ ¬ v6 = 0 ∧ s + m < e ∧ zA σ 10 0 (s + m) = xch 1 v7) ∨ (c = 0 ∧ (v6 = 0 ∨ ¬ s + m < e ∨ ¬ zA σ 10 0 (s + m) = xch 1 v7))) → wpX9_ordinal_S1_102 K s e v4 v5 v7 c σ Q := by
    intro c q hcc
    unfold wpX9_ordinal_S1_102 wpX9_ordinal_S1_107
    refine ih _ _ _ _ _ ⟨rfl, k, m + 1, h4, by omega, by omega, Or.inl ⟨hk, by omega, by omega, ?_⟩, hn⟩ (by omega)
    rcases hcc with ⟨c1, c2, c3, c4⟩ | ⟨c1, c2⟩
    · refine ⟨fun _ j hj => ?_, fun _ => by omega⟩
      by_cases qj : j = m
      · rw [qj]; refine ⟨c3, c4.trans ?_⟩; rw [h7]; congr 1
      · exact hv.mp c2 j (by omega)
    · refine ⟨fun z => absurd c1 z, fun z => ?_⟩
      exfalso
      rcases c2 with c2 | c2 | c2
      · exact absurd c2 (hv.mpr (fun j hj => z j (by omega)))
      · exact c2 (z m (by omega)).1
      · refine c2 ((z m (by omega)).2.trans ?_); rw [h7]; congr 1
  unfold wpX9_ordinal_S1_101
  refine ⟨by omega, by decide, fun a => absurd a (by omega), fun a => c_len1 ⟨by decide, fun b => end0 ?_, fun b => c_chr1 (by omega) ?_⟩⟩
  · by_cases q : m < xl1 k
    · exact absurd (by omega) (m2 q).1
    · omega
  have hbd : 0 ≤ zby 1 v7 % 256 % 65536 ∧ zby 1 v7 % 256 % 65536 ≤ 65535 := by omega
  refine ⟨by omega, fun c => ?_, fun c => end0 ?_⟩
  · have q : m < xl1 k := by
      by_cases q : m < xl1 k
      · exact q
      · exfalso
        rcases m3 (by omega) with z | z
        · omega
        · rw [← h7] at z; exact c z
    refine ⟨by omega, fun z => nxt0 0 q (Or.inr ⟨rfl, Or.inl z⟩), fun z => ⟨by omega, by omega, fun y => nxt0 0 q (Or.inr ⟨rfl, Or.inr (Or.inl (by omega))⟩), fun y => ⟨by omega, c_chr1 (by omega) ⟨?_, by omega, fun x => nxt0 0 q (Or.inr ⟨rfl, Or.inr (Or.inr (by rw [← h5]; exact x))⟩), fun x => nxt0 1 q (Or.inl ⟨rfl, z, by omega, by rw [← h5]; exact x⟩)⟩⟩⟩⟩
    have := hX.2.1 (s + v5) (by omega) (by omega)
    omega
  · by_cases q : m < xl1 k
    · exfalso; refine (m2 q).2.1 ?_; rw [← h7]; exact c
    · omega
def xb2 (k : Nat) : Nat := ([0, 3, 6, 9, 12] : List Nat).getD k 0
def xl2 (k : Nat) : Nat := xb2 (k + 1) - 1 - xb2 k
theorem x_Fa2 : ∀ k : Nat, k < 4 → xl2 k ≤ 6 ∧ xb2 (k + 1) = xb2 k + xl2 k + 1 ∧ wv (xch 2) (xb2 k : Nat) (xl2 k) = zwords ((8 + k : Nat) : Int) := by decide +kernel
def xm2 (k m : Nat) : Bool := decide (xb2 k + m ≤ 11) && (decide (xb2 k + m ≠ 11) && decide (xch 2 ((xb2 k + m : Nat) : Int) ≠ 32) && decide (0 < xch 2 ((xb2 k + m : Nat) : Int)) && decide (xch 2 ((xb2 k + m : Nat) : Int) < 256) || decide (xl2 k ≤ m)) && (decide (xb2 k + m = 11) || decide (xch 2 ((xb2 k + m : Nat) : Int) = 32) || decide (m < xl2 k))
theorem x_Fb2 : ∀ k : Nat, k < 4 → ∀ m : Nat, m < 7 → (decide (xl2 k < m) || xm2 k m) = true := by decide +kernel
theorem x_F2 (k : Nat) (hk : k < 4) : xl2 k ≤ 6 ∧ xb2 (k + 1) = xb2 k + xl2 k + 1 ∧ wv (xch 2) (xb2 k : Nat) (xl2 k) = zwords ((8 + k : Nat) : Int) ∧ ∀ m : Nat, m < 7 → m ≤ xl2 k → xb2 k + m ≤ 11 ∧ (m < xl2 k → xb2 k + m ≠ 11 ∧ xch 2 ((xb2 k + m : Nat) : Int) ≠ 32 ∧ 0 < xch 2 ((xb2 k + m : Nat) : Int) ∧ xch 2 ((xb2 k + m : Nat) : Int) < 256) ∧ (m = xl2 k → xb2 k + m = 11 ∨ xch 2 ((xb2 k + m : Nat) : Int) = 32) := by
  obtain ⟨a, b, c⟩ := x_Fa2 k hk
  refine ⟨a, b, c, fun m hm hl => ?_⟩
  have d := x_Fb2 k hk m hm
  unfold xm2 at d
  simp only [Bool.or_eq_true, Bool.and_eq_true, decide_eq_true_eq] at d
  omega
theorem x_ordinal2 {σ : ZS} {s e : Int} {Q : Int → ZS → Prop} (hX : TX σ) (hb : 0 ≤ s ∧ s ≤ e ∧ e ≤ 480) (hp : ∀ j : Int, s ≤ j → j < e → 0 < zA σ 10 0 j) (hQ : ∀ x : Int, ((x = -1 ∧ ∀ k : Nat, k < 4 → zwords ((8 + k : Nat) : Int) ≠ wv (zA σ 10 0) s (e - s).toNat) ∨ (∃ k : Nat, x = k ∧ k < 4 ∧ zwords ((8 + k : Nat) : Int) = wv (zA σ 10 0) s (e - s).toNat)) → Q x σ) : wpX9_ordinal_S2 s e σ Q := by
  have hh : ∀ n : Nat, s + n ≤ e → ∀ j : Nat, j < n → 0 < zA σ 10 0 (s + j) ∧ zA σ 10 0 (s + j) < 256 := fun n hn j hj => by
    have := hp (s + j) (by omega) (by omega)
    have := hX.2.1 (s + j) (by omega) (by omega)
    omega
  unfold wpX9_ordinal_S2 wpX9_ordinal_S2_12
  refine lfp4_ind (fun _ _ _ v _ => (12 - v).toNat) (fun v4 v5 v6 v7 τ => τ = σ ∧ ∃ k m : Nat, v4 = k ∧ v5 = m ∧ v7 = ((xb2 k + m : Nat) : Int) ∧ ((k < 4 ∧ m ≤ xl2 k ∧ (0 ≤ v6 ∧ v6 ≤ 1) ∧ (¬ v6 = 0 ↔ ∀ j : Nat, j < m → s + j < e ∧ zA σ 10 0 (s + j) = xch 2 ((xb2 k : Nat) + j))) ∨ (k = 4 ∧ m = 0)) ∧ ∀ k' : Nat, k' < k → zwords ((8 + k' : Nat) : Int) ≠ wv (zA σ 10 0) s (e - s).toNat) (fun K v4 v5 v6 v7 τ hI ih => ?_) ⟨rfl, 0, 0, rfl, rfl, rfl, Or.inl ⟨by decide, Nat.zero_le _, by decide, fun _ j hj => absurd hj (Nat.not_lt_zero j), fun _ => by decide⟩, fun k' hk => absurd hk (Nat.not_lt_zero k')⟩
  obtain ⟨e0, k, m, h4, h5, h7, hc, hn⟩ := hI
  rw [e0]
  unfold wpbX9_ordinal_S2_12
  refine c_len2 ?_
  rcases hc with ⟨hk, hm, h6, hv⟩ | ⟨hk, hm⟩
  rotate_left
  · have e7 : v7 = 12 := by rw [h7, hk, hm]; rfl
    rw [e7]
    exact ⟨by decide, by decide, fun _ => hQ _ (Or.inl ⟨rfl, fun k' h' => hn k' (by omega)⟩), fun a => absurd (by decide) a⟩
  obtain ⟨f6, fb, fw, fm⟩ := x_F2 k hk
  obtain ⟨m1, m2, m3⟩ := fm m (by omega) hm
  have end0 : m = xl2 k → wpX9_ordinal_S2_41 K s e v4 v5 v6 v7 σ Q := by
    intro q
    have nx : (v6 = 0 ∨ ¬ s + v5 = e) → K (v4 + 1) 0 1 (v7 + 1) σ := by
      intro hz
      have hne : zwords ((8 + k : Nat) : Int) ≠ wv (zA σ 10 0) s (e - s).toNat := by
        intro ee
        rw [← fw] at ee
        obtain ⟨en, ej⟩ := wv_inj (xl2 k) (e - s).toNat (fun j hj => ((fm j (by omega) (by omega)).2.1 hj).2.2) (hh (e - s).toNat (by omega)) ee
        rcases hz with hz | hz
        · exact absurd hz (hv.mpr (fun j hj => ⟨by omega, (ej j (by omega)).symm⟩))
        · exact hz (by omega)
      refine ih _ _ _ _ _ ⟨rfl, k + 1, 0, by omega, rfl, by omega, ?_, fun k' hk' => ?_⟩ (by omega)
      · by_cases qk : k + 1 < 4
        · exact Or.inl ⟨qk, Nat.zero_le _, by decide, fun _ j hj => absurd hj (Nat.not_lt_zero j), fun _ => by decide⟩
        · exact Or.inr ⟨by omega, rfl⟩
      · by_cases qk : k' = k
        · rw [qk]; exact hne
        · exact hn k' (by omega)
    unfold wpX9_ordinal_S2_41 wpX9_ordinal_S2_57 wpX9_ordinal_S2_107
    refine ⟨by omega, fun z => nx (Or.inl z), fun z => ⟨by omega, by omega, fun y => nx (Or.inr y), fun y => hQ _ (Or.inr ⟨k, h4, hk, ?_⟩)⟩⟩
    rw [show (e - s).toNat = xl2 k by omega, ← fw]
    exact (wv_cg _ (fun j hj => (hv.mp z j (by omega)).2)).symm
  have nxt0 : ∀ c : Int, m < xl2 k → ((c = 1 ∧ ¬ v6 = 0 ∧ s + m < e ∧ zA σ 10 0 (s + m) = xch 2 v7) ∨ (c = 0 ∧ (v6 = 0 ∨ ¬ s + m < e ∨ ¬ zA σ 10 0 (s + m) = xch 2 v7))) → wpX9_ordinal_S2_102 K s e v4 v5 v7 c σ Q := by
    intro c q hcc
    unfold wpX9_ordinal_S2_102 wpX9_ordinal_S2_107
    refine ih _ _ _ _ _ ⟨rfl, k, m + 1, h4, by omega, by omega, Or.inl ⟨hk, by omega, by omega, ?_⟩, hn⟩ (by omega)
    rcases hcc with ⟨c1, c2, c3, c4⟩ | ⟨c1, c2⟩
    · refine ⟨fun _ j hj => ?_, fun _ => by omega⟩
      by_cases qj : j = m
      · rw [qj]; refine ⟨c3, c4.trans ?_⟩; rw [h7]; congr 1
      · exact hv.mp c2 j (by omega)
    · refine ⟨fun z => absurd c1 z, fun z => ?_⟩
      exfalso
      rcases c2 with c2 | c2 | c2
      · exact absurd c2 (hv.mpr (fun j hj => z j (by omega)))
      · exact c2 (z m (by omega)).1
      · refine c2 ((z m (by omega)).2.trans ?_); rw [h7]; congr 1
  unfold wpX9_ordinal_S2_101
  refine ⟨by omega, by decide, fun a => absurd a (by omega), fun a => c_len2 ⟨by decide, fun b => end0 ?_, fun b => c_chr2 (by omega) ?_⟩⟩
  · by_cases q : m < xl2 k
    · exact absurd (by omega) (m2 q).1
    · omega
  have hbd : 0 ≤ zby 2 v7 % 256 % 65536 ∧ zby 2 v7 % 256 % 65536 ≤ 65535 := by omega
  refine ⟨by omega, fun c => ?_, fun c => end0 ?_⟩
  · have q : m < xl2 k := by
      by_cases q : m < xl2 k
      · exact q
      · exfalso
        rcases m3 (by omega) with z | z
        · omega
        · rw [← h7] at z; exact c z
    refine ⟨by omega, fun z => nxt0 0 q (Or.inr ⟨rfl, Or.inl z⟩), fun z => ⟨by omega, by omega, fun y => nxt0 0 q (Or.inr ⟨rfl, Or.inr (Or.inl (by omega))⟩), fun y => ⟨by omega, c_chr2 (by omega) ⟨?_, by omega, fun x => nxt0 0 q (Or.inr ⟨rfl, Or.inr (Or.inr (by rw [← h5]; exact x))⟩), fun x => nxt0 1 q (Or.inl ⟨rfl, z, by omega, by rw [← h5]; exact x⟩)⟩⟩⟩⟩
    have := hX.2.1 (s + v5) (by omega) (by omega)
    omega
  · by_cases q : m < xl2 k
    · exfalso; refine (m2 q).2.1 ?_; rw [← h7]; exact c
    · omega
def xb3 (k : Nat) : Nat := ([0, 4, 11, 18, 23, 28, 34, 38, 42, 45, 49, 53, 57, 61, 65, 69, 74, 78, 82, 86, 90, 94, 98, 102, 105, 109, 112, 116, 119, 123, 128, 133, 139, 143, 148, 152, 156] : List Nat).getD k 0
def xl3 (k : Nat) : Nat := xb3 (k + 1) - 1 - xb3 k
theorem x_Fa3 : ∀ k : Nat, k < 36 → xl3 k ≤ 6 ∧ xb3 (k + 1) = xb3 k + xl3 k + 1 ∧ wv (xch 3) (xb3 k : Nat) (xl3 k) = zwords ((12 + k : Nat) : Int) := by decide +kernel
def xm3 (k m : Nat) : Bool := decide (xb3 k + m ≤ 155) && (decide (xb3 k + m ≠ 155) && decide (xch 3 ((xb3 k + m : Nat) : Int) ≠ 32) && decide (0 < xch 3 ((xb3 k + m : Nat) : Int)) && decide (xch 3 ((xb3 k + m : Nat) : Int) < 256) || decide (xl3 k ≤ m)) && (decide (xb3 k + m = 155) || decide (xch 3 ((xb3 k + m : Nat) : Int) = 32) || decide (m < xl3 k))
theorem x_Fb3 : ∀ k : Nat, k < 36 → ∀ m : Nat, m < 7 → (decide (xl3 k < m) || xm3 k m) = true := by decide +kernel
theorem x_F3 (k : Nat) (hk : k < 36) : xl3 k ≤ 6 ∧ xb3 (k + 1) = xb3 k + xl3 k + 1 ∧ wv (xch 3) (xb3 k : Nat) (xl3 k) = zwords ((12 + k : Nat) : Int) ∧ ∀ m : Nat, m < 7 → m ≤ xl3 k → xb3 k + m ≤ 155 ∧ (m < xl3 k → xb3 k + m ≠ 155 ∧ xch 3 ((xb3 k + m : Nat) : Int) ≠ 32 ∧ 0 < xch 3 ((xb3 k + m : Nat) : Int) ∧ xch 3 ((xb3 k + m : Nat) : Int) < 256) ∧ (m = xl3 k → xb3 k + m = 155 ∨ xch 3 ((xb3 k + m : Nat) : Int) = 32) := by
  obtain ⟨a, b, c⟩ := x_Fa3 k hk
  refine ⟨a, b, c, fun m hm hl => ?_⟩
  have d := x_Fb3 k hk m hm
  unfold xm3 at d
  simp only [Bool.or_eq_true, Bool.and_eq_true, decide_eq_true_eq] at d
  omega
theorem x_ordinal3 {σ : ZS} {s e : Int} {Q : Int → ZS → Prop} (hX : TX σ) (hb : 0 ≤ s ∧ s ≤ e ∧ e ≤ 480) (hp : ∀ j : Int, s ≤ j → j < e → 0 < zA σ 10 0 j) (hQ : ∀ x : Int, ((x = -1 ∧ ∀ k : Nat, k < 36 → zwords ((12 + k : Nat) : Int) ≠ wv (zA σ 10 0) s (e - s).toNat) ∨ (∃ k : Nat, x = k ∧ k < 36 ∧ zwords ((12 + k : Nat) : Int) = wv (zA σ 10 0) s (e - s).toNat)) → Q x σ) : wpX9_ordinal_S3 s e σ Q := by
  have hh : ∀ n : Nat, s + n ≤ e → ∀ j : Nat, j < n → 0 < zA σ 10 0 (s + j) ∧ zA σ 10 0 (s + j) < 256 := fun n hn j hj => by
    have := hp (s + j) (by omega) (by omega)
    have := hX.2.1 (s + j) (by omega) (by omega)
    omega
  unfold wpX9_ordinal_S3 wpX9_ordinal_S3_12
  refine lfp4_ind (fun _ _ _ v _ => (156 - v).toNat) (fun v4 v5 v6 v7 τ => τ = σ ∧ ∃ k m : Nat, v4 = k ∧ v5 = m ∧ v7 = ((xb3 k + m : Nat) : Int) ∧ ((k < 36 ∧ m ≤ xl3 k ∧ (0 ≤ v6 ∧ v6 ≤ 1) ∧ (¬ v6 = 0 ↔ ∀ j : Nat, j < m → s + j < e ∧ zA σ 10 0 (s + j) = xch 3 ((xb3 k : Nat) + j))) ∨ (k = 36 ∧ m = 0)) ∧ ∀ k' : Nat, k' < k → zwords ((12 + k' : Nat) : Int) ≠ wv (zA σ 10 0) s (e - s).toNat) (fun K v4 v5 v6 v7 τ hI ih => ?_) ⟨rfl, 0, 0, rfl, rfl, rfl, Or.inl ⟨by decide, Nat.zero_le _, by decide, fun _ j hj => absurd hj (Nat.not_lt_zero j), fun _ => by decide⟩, fun k' hk => absurd hk (Nat.not_lt_zero k')⟩
  obtain ⟨e0, k, m, h4, h5, h7, hc, hn⟩ := hI
  rw [e0]
  unfold wpbX9_ordinal_S3_12
  refine c_len3 ?_
  rcases hc with ⟨hk, hm, h6, hv⟩ | ⟨hk, hm⟩
  rotate_left
  · have e7 : v7 = 156 := by rw [h7, hk, hm]; rfl
    rw [e7]
    exact ⟨by decide, by decide, fun _ => hQ _ (Or.inl ⟨rfl, fun k' h' => hn k' (by omega)⟩), fun a => absurd (by decide) a⟩
  obtain ⟨f6, fb, fw, fm⟩ := x_F3 k hk
  obtain ⟨m1, m2, m3⟩ := fm m (by omega) hm
  have end0 : m = xl3 k → wpX9_ordinal_S3_41 K s e v4 v5 v6 v7 σ Q := by
    intro q
    have nx : (v6 = 0 ∨ ¬ s + v5 = e) → K (v4 + 1) 0 1 (v7 + 1) σ := by
      intro hz
      have hne : zwords ((12 + k : Nat) : Int) ≠ wv (zA σ 10 0) s (e - s).toNat := by
        intro ee
        rw [← fw] at ee
        obtain ⟨en, ej⟩ := wv_inj (xl3 k) (e - s).toNat (fun j hj => ((fm j (by omega) (by omega)).2.1 hj).2.2) (hh (e - s).toNat (by omega)) ee
        rcases hz with hz | hz
        · exact absurd hz (hv.mpr (fun j hj => ⟨by omega, (ej j (by omega)).symm⟩))
        · exact hz (by omega)
      refine ih _ _ _ _ _ ⟨rfl, k + 1, 0, by omega, rfl, by omega, ?_, fun k' hk' => ?_⟩ (by omega)
      · by_cases qk : k + 1 < 36
        · exact Or.inl ⟨qk, Nat.zero_le _, by decide, fun _ j hj => absurd hj (Nat.not_lt_zero j), fun _ => by decide⟩
        · exact Or.inr ⟨by omega, rfl⟩
      · by_cases qk : k' = k
        · rw [qk]; exact hne
        · exact hn k' (by omega)
    unfold wpX9_ordinal_S3_41 wpX9_ordinal_S3_57 wpX9_ordinal_S3_107
    refine ⟨by omega, fun z => nx (Or.inl z), fun z => ⟨by omega, by omega, fun y => nx (Or.inr y), fun y => hQ _ (Or.inr ⟨k, h4, hk, ?_⟩)⟩⟩
    rw [show (e - s).toNat = xl3 k by omega, ← fw]
    exact (wv_cg _ (fun j hj => (hv.mp z j (by omega)).2)).symm
  have nxt0 : ∀ c : Int, m < xl3 k → ((c = 1 ∧ ¬ v6 = 0 ∧ s + m < e ∧ zA σ 10 0 (s + m) = xch 3 v7) ∨ (c = 0 ∧ (v6 = 0 ∨ ¬ s + m < e ∨ ¬ zA σ 10 0 (s + m) = xch 3 v7))) → wpX9_ordinal_S3_102 K s e v4 v5 v7 c σ Q := by
    intro c q hcc
    unfold wpX9_ordinal_S3_102 wpX9_ordinal_S3_107
    refine ih _ _ _ _ _ ⟨rfl, k, m + 1, h4, by omega, by omega, Or.inl ⟨hk, by omega, by omega, ?_⟩, hn⟩ (by omega)
    rcases hcc with ⟨c1, c2, c3, c4⟩ | ⟨c1, c2⟩
    · refine ⟨fun _ j hj => ?_, fun _ => by omega⟩
      by_cases qj : j = m
      · rw [qj]; refine ⟨c3, c4.trans ?_⟩; rw [h7]; congr 1
      · exact hv.mp c2 j (by omega)
    · refine ⟨fun z => absurd c1 z, fun z => ?_⟩
      exfalso
      rcases c2 with c2 | c2 | c2
      · exact absurd c2 (hv.mpr (fun j hj => z j (by omega)))
      · exact c2 (z m (by omega)).1
      · refine c2 ((z m (by omega)).2.trans ?_); rw [h7]; congr 1
  unfold wpX9_ordinal_S3_101
  refine ⟨by omega, by decide, fun a => absurd a (by omega), fun a => c_len3 ⟨by decide, fun b => end0 ?_, fun b => c_chr3 (by omega) ?_⟩⟩
  · by_cases q : m < xl3 k
    · exact absurd (by omega) (m2 q).1
    · omega
  have hbd : 0 ≤ zby 3 v7 % 256 % 65536 ∧ zby 3 v7 % 256 % 65536 ≤ 65535 := by omega
  refine ⟨by omega, fun c => ?_, fun c => end0 ?_⟩
  · have q : m < xl3 k := by
      by_cases q : m < xl3 k
      · exact q
      · exfalso
        rcases m3 (by omega) with z | z
        · omega
        · rw [← h7] at z; exact c z
    refine ⟨by omega, fun z => nxt0 0 q (Or.inr ⟨rfl, Or.inl z⟩), fun z => ⟨by omega, by omega, fun y => nxt0 0 q (Or.inr ⟨rfl, Or.inr (Or.inl (by omega))⟩), fun y => ⟨by omega, c_chr3 (by omega) ⟨?_, by omega, fun x => nxt0 0 q (Or.inr ⟨rfl, Or.inr (Or.inr (by rw [← h5]; exact x))⟩), fun x => nxt0 1 q (Or.inl ⟨rfl, z, by omega, by rw [← h5]; exact x⟩)⟩⟩⟩⟩
    have := hX.2.1 (s + v5) (by omega) (by omega)
    omega
  · by_cases q : m < xl3 k
    · exfalso; refine (m2 q).2.1 ?_; rw [← h7]; exact c
    · omega
theorem x_indexOf {σ : ZS} {c : Int} {Q : Int → ZS → Prop} (hc : 0 ≤ c ∧ c ≤ 126) (hQ : ∀ x : Int, (-1 ≤ x ∧ x ≤ 8) → (0 ≤ x ↔ cS c) → Q x σ) : wpJ0_indexOf_0f7a4_S0 c σ Q := by
  have m0 : max (0 : Int) 0 = 0 := by decide
  have m8 : min (8 : Int) 8 = 8 := by decide
  have hz : ∀ v : Nat, v < 8 → zby 0 (v : Int) = ([58, 59, 44, 91, 93, 43, 45, 64] : List Int).getD v 0 := by decide +kernel
  unfold wpJ0_indexOf_0f7a4_S0 wpJ0_indexOf_7cf53_S0 wpJ0_indexOf_7cf53_S0_36
  refine c_lat0 ⟨by decide, fun a => absurd a (by decide), fun _ => c_len0 ?_⟩
  unfold wpJ1_indexOf_4cfef_S0 wpJ1_canEncode_9a6ad wpJ1_canEncode_9a6ad_15 wpJ1_canEncode_9a6ad_16
  rw [m0, m8]
  refine ⟨by omega, fun a => absurd a (by omega), fun _ => ⟨fun a => absurd a (by omega), fun _ => ⟨by decide, by decide, fun _ => ⟨by decide, by decide, by decide, by decide, fun _ => ?_, fun a => absurd (by decide) a⟩, fun a => absurd a (by decide)⟩⟩⟩
  unfold wpJ1_indexOfChar_4cfef_S0 wpJ1_indexOfChar_4cfef_S0_7
  refine lfp1_ind (fun v _ => (9 - v).toNat) (fun v τ => τ = σ ∧ (0 ≤ v ∧ v ≤ 8) ∧ ∀ j : Nat, (j : Int) < v → ¬ zby 0 j = c) (fun K v τ hI ih => ?_) ⟨rfl, by decide, fun j hj => absurd hj (by omega)⟩
  obtain ⟨e0, h, hn⟩ := hI
  rw [e0]
  unfold wpbJ1_indexOfChar_4cfef_S0_7
  refine ⟨by omega, by decide, fun a => hQ _ (by decide) ⟨fun q => absurd q (by decide), fun q => ?_⟩, fun a => ⟨by omega, zby_bd _ _, by omega, fun b => ih _ _ ⟨rfl, by omega, fun j hj => ?_⟩ (by omega), fun b => hQ _ (by omega) ⟨fun _ => ?_, fun _ => by omega⟩⟩⟩
  · exfalso
    have g : ∀ j : Nat, j < 8 → ¬ ([58, 59, 44, 91, 93, 43, 45, 64] : List Int).getD j 0 = c := fun j hj => by rw [← hz j hj]; exact hn j (by omega)
    have g0 := g 0 (by decide); have g1 := g 1 (by decide); have g2 := g 2 (by decide); have g3 := g 3 (by decide); have g4 := g 4 (by decide); have g5 := g 5 (by decide); have g6 := g 6 (by decide); have g7 := g 7 (by decide)
    simp only [List.getD_cons_zero, List.getD_cons_succ] at g0 g1 g2 g3 g4 g5 g6 g7
    unfold cS at q
    omega
  · by_cases q : (j : Int) = v
    · rw [q]; intro z; exact b (by omega)
    · exact hn j (by omega)
  · have hv := hz v.toNat (by omega)
    rw [show ((v.toNat : Nat) : Int) = v by omega, b] at hv
    unfold cS
    have : v.toNat = 0 ∨ v.toNat = 1 ∨ v.toNat = 2 ∨ v.toNat = 3 ∨ v.toNat = 4 ∨ v.toNat = 5 ∨ v.toNat = 6 ∨ v.toNat = 7 := by omega
    rcases this with w | w | w | w | w | w | w | w <;> (rw [w] at hv; simp only [List.getD_cons_zero, List.getD_cons_succ] at hv; omega)
