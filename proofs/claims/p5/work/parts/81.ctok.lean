/-! C: reading tokens -/
theorem c_isLetter {a0 : Int} {σ : ZS} {Q : Int → ZS → Prop} (h : -2147483648 ≤ a0 ∧ a0 ≤ 2147483647) (h1 : cL a0 → Q 1 σ) (h0 : ¬ cL a0 → Q 0 σ) : wpX9_isLetter a0 σ Q := by
  unfold wpX9_isLetter wpX9_isLetter_16 wpX9_isLetter_17
  exact ⟨h, fun a => ⟨by decide, h0 (by unfold cL; omega)⟩, fun a => ⟨fun b => ⟨by decide, h0 (by unfold cL; omega)⟩, fun b => ⟨by decide, h1 (by unfold cL; omega)⟩⟩⟩
theorem c_isDigit {a0 : Int} {σ : ZS} {Q : Int → ZS → Prop} (h : -2147483648 ≤ a0 ∧ a0 ≤ 2147483647) (h1 : cD a0 → Q 1 σ) (h0 : ¬ cD a0 → Q 0 σ) : wpX9_isDigit a0 σ Q := by
  unfold wpX9_isDigit wpX9_isDigit_16 wpX9_isDigit_17
  exact ⟨h, fun a => ⟨by decide, h0 (by unfold cD; omega)⟩, fun a => ⟨fun b => ⟨by decide, h0 (by unfold cD; omega)⟩, fun b => ⟨by decide, h1 (by unfold cD; omega)⟩⟩⟩
theorem c_put {σ : ZS} {t v p : Int} {Q : ZS → Prop} (hT : TI σ) (hk : TK (zI σ 11 5) t v p) (hs : zI σ 12 3 ≤ 480) (hQ : ∀ τ : ZS, TI τ → kp [12] σ τ → zI τ 12 3 = zI σ 12 3 + 1 → zA τ 12 0 (zI σ 12 3) = t → Q τ) : wpX9_put t v p σ Q := by
  obtain ⟨hz, hi⟩ := hT
  unfold wpX9_put wpX9_put_52
  refine ⟨by omega, fun a => absurd a (by omega), fun _ => ⟨by omega, hQ _ ⟨?_, fun i i0 i1 => ?_⟩ ((((kp.rf.ta (by decide)).ta (by decide)).ta (by decide)).ti (by decide)) rfl ?_⟩⟩
  · show 0 ≤ zI σ 12 3 + 1 ∧ zI σ 12 3 + 1 ≤ 481
    omega
  · show TK (zI σ 11 5) (zu (zA σ 12 0) (zI σ 12 3) t i) (zu (zA σ 12 1) (zI σ 12 3) v i) (zu (zA σ 12 2) (zI σ 12 3) p i)
    have i1' : i < zI σ 12 3 + 1 := i1
    by_cases e : i = zI σ 12 3
    · rw [e, pu_eq, pu_eq, pu_eq]; exact hk
    · rw [pu_ne e, pu_ne e, pu_ne e]; exact hi i i0 (by omega)
  · show zu (zA σ 12 0) (zI σ 12 3) t (zI σ 12 3) = t
    exact pu_eq
theorem c_numberOf {σ : ZS} {w p : Int} {Q : Int → ZS → Prop} (hS : NS σ) (hR : NR σ) (hF : NF σ) (hw : 0 ≤ w ∧ w ≤ 4398046511103) (hp : 0 ≤ p ∧ p ≤ 480) (hQ : ∀ (x : Int) (τ : ZS), NS τ → NR τ → NF τ → kp [11] σ τ → zI σ 11 5 ≤ zI τ 11 5 → (0 ≤ x ∧ x < zI τ 11 5) → Q x τ) : wpX5_numberOf w p σ Q := by
  obtain ⟨s1, s2, s3⟩ := hS
  have nr : ∀ i : Int, 0 ≤ i → i < 240 → ((0 ≤ zu (zA σ 11 0) (zI σ 11 5) w i ∧ zu (zA σ 11 0) (zI σ 11 5) w i ≤ 4398046511103) ∧ (0 ≤ zu (zA σ 11 1) (zI σ 11 5) 0 i ∧ zu (zA σ 11 1) (zI σ 11 5) 0 i ≤ 3) ∧ (-1 ≤ zu (zA σ 11 2) (zI σ 11 5) (-1) i ∧ zu (zA σ 11 2) (zI σ 11 5) (-1) i ≤ 59) ∧ (0 ≤ zu (zA σ 11 3) (zI σ 11 5) 0 i ∧ zu (zA σ 11 3) (zI σ 11 5) 0 i ≤ 16) ∧ (0 ≤ zu (zA σ 11 4) (zI σ 11 5) 0 i ∧ zu (zA σ 11 4) (zI σ 11 5) 0 i ≤ 20000)) := by
    intro i i0 i1
    by_cases e : i = zI σ 11 5
    · rw [e, pu_eq, pu_eq, pu_eq, pu_eq, pu_eq]; exact ⟨hw, by decide, by decide, by decide, by decide⟩
    · rw [pu_ne e, pu_ne e, pu_ne e, pu_ne e, pu_ne e]; exact hR i i0 i1
  have nf : ∀ i : Int, 0 ≤ i → i < zI σ 11 5 + 1 → zu (zA σ 11 1) (zI σ 11 5) 0 i = 0 ∧ zu (zA σ 11 2) (zI σ 11 5) (-1) i = -1 := by
    intro i i0 i1
    by_cases e : i = zI σ 11 5
    · rw [e, pu_eq, pu_eq]; exact ⟨rfl, rfl⟩
    · rw [pu_ne e, pu_ne e]; exact hF i i0 (by omega)
  unfold wpX5_numberOf wpX5_numberOf_3
  refine lfp1_ind (fun v _ => (240 - v).toNat) (fun v τ => τ = σ ∧ 0 ≤ v ∧ v ≤ 240) (fun K v τ hI ih => ?_) ⟨rfl, by decide, by decide⟩
  obtain ⟨e, v0, v1⟩ := hI
  rw [e]
  unfold wpbX5_numberOf_3 wpX5_numberOf_121
  refine ⟨by omega, by omega, fun a => ⟨fun b => ⟨by omega, by omega, fun c => ?_, fun c => ?_⟩, fun b => hQ _ _ ⟨s1, s2, s3⟩ hR hF kp.rf (Int.le_refl _) (by omega)⟩, fun a => ⟨by omega, ?_, by omega, fun _ => ih _ _ ⟨rfl, by omega, by omega⟩ (by omega), fun _ => hQ _ _ ⟨s1, s2, s3⟩ hR hF kp.rf (Int.le_refl _) (by omega)⟩⟩
  · refine hQ _ _ ⟨?_, s2, ?_⟩ nr nf ((((((kp.rf.ta (by decide)).ta (by decide)).ta (by decide)).ta (by decide)).ta (by decide)).ti (by decide)) ?_ ?_
    · show 0 ≤ zI σ 11 5 + 1 ∧ zI σ 11 5 + 1 ≤ 240
      omega
    · show 25 ≤ zI σ 11 5 + 1 → 0 ≤ zI σ 11 6
      intro q; exact s3 (by omega)
    · show zI σ 11 5 ≤ zI σ 11 5 + 1
      omega
    · show 0 ≤ zI σ 11 5 + 1 - 1 ∧ zI σ 11 5 + 1 - 1 < zI σ 11 5 + 1
      omega
  · refine hQ _ _ ⟨?_, ?_, ?_⟩ nr nf (((((((kp.rf.ta (by decide)).ta (by decide)).ta (by decide)).ta (by decide)).ta (by decide)).ti (by decide)).ti (by decide)) ?_ ?_
    · show 0 ≤ zI σ 11 5 + 1 ∧ zI σ 11 5 + 1 ≤ 240
      omega
    · show -1 ≤ p ∧ p ≤ 480
      omega
    · show 25 ≤ zI σ 11 5 + 1 → 0 ≤ p
      intro q; exact hp.1
    · show zI σ 11 5 ≤ zI σ 11 5 + 1
      omega
    · show 0 ≤ zI σ 11 5 + 1 - 1 ∧ zI σ 11 5 + 1 - 1 < zI σ 11 5 + 1
      omega
  · have := (hR v v0 (by omega)).1
    omega
theorem c_readNumber {σ : ZS} {s L : Int} {Q : Int → ZS → Prop} (hX : TX σ) (hT : TI σ) (hb : 0 ≤ s ∧ s < L ∧ L ≤ 480) (hd : cD (zA σ 10 0 s)) (hs : zI σ 12 3 ≤ 480) (hQ : ∀ (x : Int) (τ : ZS), s < x → x ≤ L → TI τ → kp [12] σ τ → zI τ 12 3 = zI σ 12 3 + 1 → Q x τ) : wpX9_readNumber s L σ Q := by
  unfold wpX9_readNumber wpX9_readNumber_6
  have f48 : ∀ v4 v5 : Int, (0 ≤ v4 ∧ v4 ≤ 65536) → s < v5 → v5 ≤ L → wpX9_readNumber_48 s v4 v5 σ Q := by
    intro v4 v5 h4 h5 h6
    unfold wpX9_readNumber_48 wpX9_readNumber_61
    exact ⟨by omega, fun _ => c_put hT ⟨by decide, h4, by omega, fun q => absurd q (by decide)⟩ hs (fun τ a b c _ => hQ _ _ h5 h6 a b c), fun _ => c_put hT ⟨by decide, h4, by omega, fun q => absurd q (by decide)⟩ hs (fun τ a b c _ => hQ _ _ h5 h6 a b c)⟩
  refine lfp2_ind (fun _ v _ => (480 - v).toNat) (fun v4 v5 τ => τ = σ ∧ (0 ≤ v4 ∧ v4 ≤ 65536) ∧ s ≤ v5 ∧ v5 ≤ L) (fun K v4 v5 τ hI ih => ?_) ⟨rfl, by decide, by omega, by omega⟩
  obtain ⟨e, h4, h5, h6⟩ := hI
  rw [e]
  unfold wpbX9_readNumber_6
  refine ⟨by omega, by omega, fun a => f48 v4 v5 h4 (by omega) h6, fun a => ⟨by omega, ?_⟩⟩
  have hc := hX.2.1 v5 (by omega) (by omega)
  refine c_isDigit (by omega) (fun q => ⟨by decide, fun q' => absurd q' (by decide), fun _ => ?_⟩) (fun q => ⟨by decide, fun _ => f48 v4 v5 h4 (by
      by_cases e5 : v5 = s
      · rw [e5] at q; exact absurd hd q
      · omega) h6, fun q' => absurd rfl q'⟩)
  unfold cD at q
  exact ⟨by omega, ih _ _ _ ⟨rfl, by omega, by omega, by omega⟩ (by omega)⟩
def pkv (h : Int → Int) (s : Int) : Nat → Int
  | 0 => 0
  | n + 1 => pkv h s n * 128 + h (s + n)
theorem pkv_bd {h : Int → Int} {s : Int} : ∀ n : Nat, (∀ j : Int, s ≤ j → j < s + n → 0 ≤ h j ∧ h j < 128) → 0 ≤ pkv h s n ∧ pkv h s n < (128 : Int) ^ n
  | 0, _ => ⟨Int.le_refl 0, (by decide : (0 : Int) < 128 ^ 0)⟩
  | n + 1, hh => by
    have ih := pkv_bd n (fun j h1 h2 => hh j h1 (by omega))
    have hc := hh (s + n) (by omega) (by omega)
    show 0 ≤ pkv h s n * 128 + h (s + n) ∧ pkv h s n * 128 + h (s + n) < (128 : Int) ^ (n + 1)
    rw [Int.pow_succ]
    omega
theorem pkv_6 {h : Int → Int} {s : Int} {n : Nat} (hn : n ≤ 6) (hh : ∀ j : Int, s ≤ j → j < s + n → 0 ≤ h j ∧ h j < 128) : 0 ≤ pkv h s n ∧ pkv h s n ≤ 4398046511103 := by
  have a := pkv_bd n hh
  have b : ∀ k : Nat, k ≤ 6 → (128 : Int) ^ k ≤ 4398046511104 := by decide
  have c := b n hn
  omega
theorem zby_bd (k : Nat) (i : Int) : -2147483648 ≤ zby k i ∧ zby k i ≤ 2147483647 := by
  unfold zby
  have h1 := Int32.le_toInt ((zByt.getD k []).getD i.toNat 0)
  have h2 := Int32.toInt_lt ((zByt.getD k []).getD i.toNat 0)
  omega
theorem c_len0 {σ : ZS} {Q : Int → ZS → Prop} (h : Q 8 σ) : wpJ0_length_8abf5_S0 σ Q := by
  unfold wpJ0_length_8abf5_S0 wpJ0_coder_7d493_S0 wpJ0_coder_7d493_S0_14
  exact ⟨fun a => absurd a (by decide), fun _ => ⟨rfl, rfl, h⟩⟩
theorem c_lat0 {σ : ZS} {Q : Int → ZS → Prop} (h : Q 1 σ) : wpJ0_isLatin1_aae02_S0 σ Q := by
  unfold wpJ0_isLatin1_aae02_S0 wpJ0_isLatin1_aae02_S0_17 wpJ0_isLatin1_aae02_S0_18
  exact ⟨fun a => absurd a (by decide), fun _ => ⟨fun a => absurd rfl a, fun _ => ⟨by decide, h⟩⟩⟩
theorem c_len1 {σ : ZS} {Q : Int → ZS → Prop} (h : Q 23 σ) : wpJ0_length_8abf5_S1 σ Q := by
  unfold wpJ0_length_8abf5_S1 wpJ0_coder_7d493_S1 wpJ0_coder_7d493_S1_14
  exact ⟨fun a => absurd a (by decide), fun _ => ⟨rfl, rfl, h⟩⟩
theorem c_lat1 {σ : ZS} {Q : Int → ZS → Prop} (h : Q 1 σ) : wpJ0_isLatin1_aae02_S1 σ Q := by
  unfold wpJ0_isLatin1_aae02_S1 wpJ0_isLatin1_aae02_S1_17 wpJ0_isLatin1_aae02_S1_18
  exact ⟨fun a => absurd a (by decide), fun _ => ⟨fun a => absurd rfl a, fun _ => ⟨by decide, h⟩⟩⟩
theorem c_len2 {σ : ZS} {Q : Int → ZS → Prop} (h : Q 11 σ) : wpJ0_length_8abf5_S2 σ Q := by
  unfold wpJ0_length_8abf5_S2 wpJ0_coder_7d493_S2 wpJ0_coder_7d493_S2_14
  exact ⟨fun a => absurd a (by decide), fun _ => ⟨rfl, rfl, h⟩⟩
theorem c_lat2 {σ : ZS} {Q : Int → ZS → Prop} (h : Q 1 σ) : wpJ0_isLatin1_aae02_S2 σ Q := by
  unfold wpJ0_isLatin1_aae02_S2 wpJ0_isLatin1_aae02_S2_17 wpJ0_isLatin1_aae02_S2_18
  exact ⟨fun a => absurd a (by decide), fun _ => ⟨fun a => absurd rfl a, fun _ => ⟨by decide, h⟩⟩⟩
theorem c_len3 {σ : ZS} {Q : Int → ZS → Prop} (h : Q 155 σ) : wpJ0_length_8abf5_S3 σ Q := by
  unfold wpJ0_length_8abf5_S3 wpJ0_coder_7d493_S3 wpJ0_coder_7d493_S3_14
  exact ⟨fun a => absurd a (by decide), fun _ => ⟨rfl, rfl, h⟩⟩
theorem c_lat3 {σ : ZS} {Q : Int → ZS → Prop} (h : Q 1 σ) : wpJ0_isLatin1_aae02_S3 σ Q := by
  unfold wpJ0_isLatin1_aae02_S3 wpJ0_isLatin1_aae02_S3_17 wpJ0_isLatin1_aae02_S3_18
  exact ⟨fun a => absurd a (by decide), fun _ => ⟨fun a => absurd rfl a, fun _ => ⟨by decide, h⟩⟩⟩
theorem c_chr1 {σ : ZS} {i : Int} {Q : Int → ZS → Prop} (hi : 0 ≤ i ∧ i < 23) (h : Q (zby 1 i % 256 % 65536) σ) : wpJ0_charAt_5068e_S1 i σ Q := by
  unfold wpJ0_charAt_5068e_S1 wpJ1_charAt_3b067_S1 wpJ0_checkIndex_df160 wpJ3_checkIndex_8e157
  exact c_lat1 ⟨by decide, fun a => absurd a (by decide), fun _ => ⟨by omega, fun a => absurd a (by omega), fun _ => ⟨by decide, fun _ => ⟨hi, by omega, h⟩, fun a => absurd hi.2 a⟩⟩⟩
theorem c_ordinal1 {σ : ZS} {s e : Int} {Q : Int → ZS → Prop} (hX : TX σ) (hb : 0 ≤ s ∧ s ≤ e ∧ e ≤ 480) (hQ : ∀ x : Int, (-1 ≤ x ∧ x ≤ 200) → Q x σ) : wpX9_ordinal_S1 s e σ Q := by
  unfold wpX9_ordinal_S1 wpX9_ordinal_S1_12
  refine lfp4_ind (fun _ _ _ v _ => (24 - v).toNat) (fun v4 v5 v6 v7 τ => τ = σ ∧ (0 ≤ v4 ∧ v4 ≤ v7) ∧ (0 ≤ v5 ∧ v5 ≤ v7) ∧ (0 ≤ v6 ∧ v6 ≤ 1) ∧ (0 ≤ v7 ∧ v7 ≤ 24)) (fun K v4 v5 v6 v7 τ hI ih => ?_) ⟨rfl, by decide, by decide, by decide, by decide⟩
  obtain ⟨e0, h4, h5, h6, h7⟩ := hI
  rw [e0]
  have go : ∀ a b c : Int, v7 ≤ 23 → (0 ≤ a ∧ a ≤ v7 + 1) → (0 ≤ b ∧ b ≤ v7 + 1) → (0 ≤ c ∧ c ≤ 1) → K a b c (v7 + 1) σ := fun a b c q1 q2 q3 q4 => ih _ _ _ _ _ ⟨rfl, q2, q3, q4, by omega⟩ (by omega)
  have f41 : v7 ≤ 23 → wpX9_ordinal_S1_41 K s e v4 v5 v6 v7 σ Q := by
    intro q
    unfold wpX9_ordinal_S1_41 wpX9_ordinal_S1_57 wpX9_ordinal_S1_107
    exact ⟨by omega, fun _ => go _ _ _ q (by omega) (by omega) (by decide), fun _ => ⟨by omega, by omega, fun _ => go _ _ _ q (by omega) (by omega) (by decide), fun _ => hQ _ (by omega)⟩⟩
  have f102 : ∀ c : Int, (0 ≤ c ∧ c ≤ 1) → v7 ≤ 23 → wpX9_ordinal_S1_102 K s e v4 v5 v7 c σ Q := by
    intro c hc q
    unfold wpX9_ordinal_S1_102 wpX9_ordinal_S1_107
    exact go _ _ _ q (by omega) (by omega) hc
  unfold wpbX9_ordinal_S1_12 wpX9_ordinal_S1_101
  refine c_len1 ⟨by omega, by decide, fun _ => hQ _ (by decide), fun a => c_len1 ⟨by decide, fun _ => f41 (by omega), fun b => c_chr1 (by omega) ⟨by omega, fun _ => ⟨by omega, fun _ => f102 0 (by decide) (by omega), fun _ => ⟨by omega, by omega, fun _ => f102 0 (by decide) (by omega), fun d => ⟨by omega, c_chr1 (by omega) ⟨?_, by omega, fun _ => f102 0 (by decide) (by omega), fun _ => f102 1 (by decide) (by omega)⟩⟩⟩⟩, fun _ => f41 (by omega)⟩⟩⟩
  have := hX.2.1 (s + v5) (by omega) (by omega)
  omega
theorem c_chr2 {σ : ZS} {i : Int} {Q : Int → ZS → Prop} (hi : 0 ≤ i ∧ i < 11) (h : Q (zby 2 i % 256 % 65536) σ) : wpJ0_charAt_5068e_S2 i σ Q := by
  unfold wpJ0_charAt_5068e_S2 wpJ1_charAt_3b067_S2 wpJ0_checkIndex_df160 wpJ3_checkIndex_8e157
  exact c_lat2 ⟨by decide, fun a => absurd a (by decide), fun _ => ⟨by omega, fun a => absurd a (by omega), fun _ => ⟨by decide, fun _ => ⟨hi, by omega, h⟩, fun a => absurd hi.2 a⟩⟩⟩
theorem c_ordinal2 {σ : ZS} {s e : Int} {Q : Int → ZS → Prop} (hX : TX σ) (hb : 0 ≤ s ∧ s ≤ e ∧ e ≤ 480) (hQ : ∀ x : Int, (-1 ≤ x ∧ x ≤ 200) → Q x σ) : wpX9_ordinal_S2 s e σ Q := by
  unfold wpX9_ordinal_S2 wpX9_ordinal_S2_12
  refine lfp4_ind (fun _ _ _ v _ => (12 - v).toNat) (fun v4 v5 v6 v7 τ => τ = σ ∧ (0 ≤ v4 ∧ v4 ≤ v7) ∧ (0 ≤ v5 ∧ v5 ≤ v7) ∧ (0 ≤ v6 ∧ v6 ≤ 1) ∧ (0 ≤ v7 ∧ v7 ≤ 12)) (fun K v4 v5 v6 v7 τ hI ih => ?_) ⟨rfl, by decide, by decide, by decide, by decide⟩
  obtain ⟨e0, h4, h5, h6, h7⟩ := hI
  rw [e0]
  have go : ∀ a b c : Int, v7 ≤ 11 → (0 ≤ a ∧ a ≤ v7 + 1) → (0 ≤ b ∧ b ≤ v7 + 1) → (0 ≤ c ∧ c ≤ 1) → K a b c (v7 + 1) σ := fun a b c q1 q2 q3 q4 => ih _ _ _ _ _ ⟨rfl, q2, q3, q4, by omega⟩ (by omega)
  have f41 : v7 ≤ 11 → wpX9_ordinal_S2_41 K s e v4 v5 v6 v7 σ Q := by
    intro q
    unfold wpX9_ordinal_S2_41 wpX9_ordinal_S2_57 wpX9_ordinal_S2_107
    exact ⟨by omega, fun _ => go _ _ _ q (by omega) (by omega) (by decide), fun _ => ⟨by omega, by omega, fun _ => go _ _ _ q (by omega) (by omega) (by decide), fun _ => hQ _ (by omega)⟩⟩
  have f102 : ∀ c : Int, (0 ≤ c ∧ c ≤ 1) → v7 ≤ 11 → wpX9_ordinal_S2_102 K s e v4 v5 v7 c σ Q := by
    intro c hc q
    unfold wpX9_ordinal_S2_102 wpX9_ordinal_S2_107
    exact go _ _ _ q (by omega) (by omega) hc
  unfold wpbX9_ordinal_S2_12 wpX9_ordinal_S2_101
  refine c_len2 ⟨by omega, by decide, fun _ => hQ _ (by decide), fun a => c_len2 ⟨by decide, fun _ => f41 (by omega), fun b => c_chr2 (by omega) ⟨by omega, fun _ => ⟨by omega, fun _ => f102 0 (by decide) (by omega), fun _ => ⟨by omega, by omega, fun _ => f102 0 (by decide) (by omega), fun d => ⟨by omega, c_chr2 (by omega) ⟨?_, by omega, fun _ => f102 0 (by decide) (by omega), fun _ => f102 1 (by decide) (by omega)⟩⟩⟩⟩, fun _ => f41 (by omega)⟩⟩⟩
  have := hX.2.1 (s + v5) (by omega) (by omega)
  omega
theorem c_chr3 {σ : ZS} {i : Int} {Q : Int → ZS → Prop} (hi : 0 ≤ i ∧ i < 155) (h : Q (zby 3 i % 256 % 65536) σ) : wpJ0_charAt_5068e_S3 i σ Q := by
  unfold wpJ0_charAt_5068e_S3 wpJ1_charAt_3b067_S3 wpJ0_checkIndex_df160 wpJ3_checkIndex_8e157
  exact c_lat3 ⟨by decide, fun a => absurd a (by decide), fun _ => ⟨by omega, fun a => absurd a (by omega), fun _ => ⟨by decide, fun _ => ⟨hi, by omega, h⟩, fun a => absurd hi.2 a⟩⟩⟩
theorem c_ordinal3 {σ : ZS} {s e : Int} {Q : Int → ZS → Prop} (hX : TX σ) (hb : 0 ≤ s ∧ s ≤ e ∧ e ≤ 480) (hQ : ∀ x : Int, (-1 ≤ x ∧ x ≤ 200) → Q x σ) : wpX9_ordinal_S3 s e σ Q := by
  unfold wpX9_ordinal_S3 wpX9_ordinal_S3_12
  refine lfp4_ind (fun _ _ _ v _ => (156 - v).toNat) (fun v4 v5 v6 v7 τ => τ = σ ∧ (0 ≤ v4 ∧ v4 ≤ v7) ∧ (0 ≤ v5 ∧ v5 ≤ v7) ∧ (0 ≤ v6 ∧ v6 ≤ 1) ∧ (0 ≤ v7 ∧ v7 ≤ 156)) (fun K v4 v5 v6 v7 τ hI ih => ?_) ⟨rfl, by decide, by decide, by decide, by decide⟩
  obtain ⟨e0, h4, h5, h6, h7⟩ := hI
  rw [e0]
  have go : ∀ a b c : Int, v7 ≤ 155 → (0 ≤ a ∧ a ≤ v7 + 1) → (0 ≤ b ∧ b ≤ v7 + 1) → (0 ≤ c ∧ c ≤ 1) → K a b c (v7 + 1) σ := fun a b c q1 q2 q3 q4 => ih _ _ _ _ _ ⟨rfl, q2, q3, q4, by omega⟩ (by omega)
  have f41 : v7 ≤ 155 → wpX9_ordinal_S3_41 K s e v4 v5 v6 v7 σ Q := by
    intro q
    unfold wpX9_ordinal_S3_41 wpX9_ordinal_S3_57 wpX9_ordinal_S3_107
    exact ⟨by omega, fun _ => go _ _ _ q (by omega) (by omega) (by decide), fun _ => ⟨by omega, by omega, fun _ => go _ _ _ q (by omega) (by omega) (by decide), fun _ => hQ _ (by omega)⟩⟩
  have f102 : ∀ c : Int, (0 ≤ c ∧ c ≤ 1) → v7 ≤ 155 → wpX9_ordinal_S3_102 K s e v4 v5 v7 c σ Q := by
    intro c hc q
    unfold wpX9_ordinal_S3_102 wpX9_ordinal_S3_107
    exact go _ _ _ q (by omega) (by omega) hc
  unfold wpbX9_ordinal_S3_12 wpX9_ordinal_S3_101
  refine c_len3 ⟨by omega, by decide, fun _ => hQ _ (by decide), fun a => c_len3 ⟨by decide, fun _ => f41 (by omega), fun b => c_chr3 (by omega) ⟨by omega, fun _ => ⟨by omega, fun _ => f102 0 (by decide) (by omega), fun _ => ⟨by omega, by omega, fun _ => f102 0 (by decide) (by omega), fun d => ⟨by omega, c_chr3 (by omega) ⟨?_, by omega, fun _ => f102 0 (by decide) (by omega), fun _ => f102 1 (by decide) (by omega)⟩⟩⟩⟩, fun _ => f41 (by omega)⟩⟩⟩
  have := hX.2.1 (s + v5) (by omega) (by omega)
  omega
theorem c_indexOf {σ : ZS} {c : Int} {Q : Int → ZS → Prop} (hc : 0 ≤ c ∧ c ≤ 126) (hQ : ∀ x : Int, (-1 ≤ x ∧ x ≤ 8) → Q x σ) : wpJ0_indexOf_0f7a4_S0 c σ Q := by
  have m0 : max (0 : Int) 0 = 0 := by decide
  have m8 : min (8 : Int) 8 = 8 := by decide
  unfold wpJ0_indexOf_0f7a4_S0 wpJ0_indexOf_7cf53_S0 wpJ0_indexOf_7cf53_S0_36
  refine c_lat0 ⟨by decide, fun a => absurd a (by decide), fun _ => c_len0 ?_⟩
  unfold wpJ1_indexOf_4cfef_S0 wpJ1_canEncode_9a6ad wpJ1_canEncode_9a6ad_15 wpJ1_canEncode_9a6ad_16
  rw [m0, m8]
  refine ⟨by omega, fun a => absurd a (by omega), fun _ => ⟨fun a => absurd a (by omega), fun _ => ⟨by decide, by decide, fun _ => ⟨by decide, by decide, by decide, by decide, fun _ => ?_, fun a => absurd (by decide) a⟩, fun a => absurd a (by decide)⟩⟩⟩
  unfold wpJ1_indexOfChar_4cfef_S0 wpJ1_indexOfChar_4cfef_S0_7
  refine lfp1_ind (fun v _ => (9 - v).toNat) (fun v τ => τ = σ ∧ (0 ≤ v ∧ v ≤ 8)) (fun K v τ hI ih => ?_) ⟨rfl, by decide, by decide⟩
  obtain ⟨e0, h⟩ := hI
  rw [e0]
  unfold wpbJ1_indexOfChar_4cfef_S0_7
  exact ⟨by omega, by decide, fun _ => hQ _ (by decide), fun _ => ⟨by omega, zby_bd _ _, by omega, fun _ => ih _ _ ⟨rfl, by omega⟩ (by omega), fun _ => hQ _ (by omega)⟩⟩
/-- what stands while tokens are read -/
def RD (σ : ZS) : Prop := NS σ ∧ NR σ ∧ NF σ ∧ TI σ
theorem TI.mo {σ τ : ZS} (h : TI σ) (e : ob τ 12 = ob σ 12) (hn : zI σ 11 5 ≤ zI τ 11 5) : TI τ := by
  have e3 := ob_I e; have e4 := ob_A e
  unfold TI; simp only [e3, e4]
  refine ⟨h.1, fun i i0 i1 => ?_⟩
  obtain ⟨a, b, c, d⟩ := h.2 i i0 i1
  exact ⟨a, b, c, fun q => by have := d q; omega⟩
theorem c_readWord {σ : ZS} {s L : Int} {Q : Int → ZS → Prop} (hX : TX σ) (hR : RD σ) (hb : 0 ≤ s ∧ s < L ∧ L ≤ 480) (hd : cL (zA σ 10 0 s)) (hs : zI σ 12 3 ≤ 480) (hQ : ∀ (x : Int) (τ : ZS), s < x → x ≤ L → RD τ → kp [11, 12] σ τ → zI τ 12 3 = zI σ 12 3 + 1 → Q x τ) : wpX9_readWord s L σ Q := by
  obtain ⟨rS, rR, rF, rT⟩ := hR
  unfold wpX9_readWord wpX9_readWord_6
  have f144 : ∀ (v4 v7 v8 : Int) (υ : ZS), s < v4 → v4 ≤ L → RD υ → kp [11, 12] σ υ → zI υ 12 3 = zI σ 12 3 → TK (zI υ 11 5) v7 v8 s → wpX9_readWord_144 s v4 v7 v8 υ Q := by
    intro v4 v7 v8 υ h1 h2 hr hk hz ht
    obtain ⟨uS, uR, uF, uT⟩ := hr
    unfold wpX9_readWord_144
    exact c_put uT ht (by omega) (fun τ a b c _ => hQ _ _ h1 h2 ⟨uS.k (b 11 (by decide)), uR.k (b 11 (by decide)), uF.k (b 11 (by decide)), a⟩ (hk.tr (b.up (by decide))) (by omega))
  have f124 : ∀ v4 v5 v7 v8 : Int, s < v4 → v4 ≤ L → (0 ≤ v5 ∧ v5 ≤ 4398046511103) → (4 ≤ v7 ∧ v7 ≤ 6) → (-1 ≤ v8 ∧ v8 ≤ 200) → wpX9_readWord_124 s v4 v5 v7 v8 σ Q := by
    intro v4 v5 v7 v8 h1 h2 h5 h7 h8
    unfold wpX9_readWord_124
    refine ⟨by omega, fun a => f144 _ _ _ _ h1 h2 ⟨rS, rR, rF, rT⟩ kp.rf rfl ⟨by omega, by omega, by omega, fun q => absurd q (by omega)⟩, fun a => c_numberOf rS rR rF h5 (by omega) (fun x τ aS aR aF ak an ax => ?_)⟩
    have e12 := ak 12 (by decide)
    exact f144 _ _ _ _ h1 h2 ⟨aS, aR, aF, rT.mo e12 an⟩ (ak.up (by decide)) (ob_I e12 3) ⟨by decide, by have := aS.1; omega, by omega, fun _ => ax.2⟩
  have f104 : ∀ v4 v5 v7 v8 : Int, s < v4 → v4 ≤ L → (0 ≤ v5 ∧ v5 ≤ 4398046511103) → (4 ≤ v7 ∧ v7 ≤ 6) → (-1 ≤ v8 ∧ v8 ≤ 200) → wpX9_readWord_104 s v4 v5 v7 v8 σ Q := by
    intro v4 v5 v7 v8 h1 h2 h5 h7 h8
    unfold wpX9_readWord_104
    exact ⟨by omega, fun a => f124 _ _ _ _ h1 h2 h5 h7 h8, fun a => c_ordinal3 hX (by omega) (fun x hx => f124 _ _ _ _ h1 h2 h5 (by decide) hx)⟩
  have f52 : ∀ v4 v5 : Int, s < v4 → v4 ≤ L → v5 = pkv (zA σ 10 0) s (v4 - s).toNat → wpX9_readWord_52 s v4 v5 σ Q := by
    intro v4 v5 h1 h2 h5
    unfold wpX9_readWord_52
    refine ⟨by omega, fun a => ?_, fun a => c_put rT ⟨by decide, by decide, by omega, fun q => absurd q (by decide)⟩ hs (fun τ a b c _ => hQ _ _ h1 h2 ⟨rS.k (b 11 (by decide)), rR.k (b 11 (by decide)), rF.k (b 11 (by decide)), a⟩ (b.up (by decide)) c)⟩
    have h5' : 0 ≤ v5 ∧ v5 ≤ 4398046511103 := by
      rw [h5]
      exact pkv_6 (by omega) (fun j j0 j1 => by have := hX.2.1 j (by omega) (by omega); omega)
    exact c_ordinal1 hX (by omega) (fun x hx => ⟨by omega, fun _ => f104 _ _ _ _ h1 h2 h5' (by decide) hx, fun _ => c_ordinal2 hX (by omega) (fun y hy => f104 _ _ _ _ h1 h2 h5' (by decide) hy)⟩)
  refine lfp2_ind (fun v _ _ => (480 - v).toNat) (fun v4 v5 τ => τ = σ ∧ v5 = pkv (zA σ 10 0) s (v4 - s).toNat ∧ s ≤ v4 ∧ v4 ≤ L) (fun K v4 v5 τ hI ih => ?_) ⟨rfl, by rw [Int.sub_self]; rfl, by omega, by omega⟩
  obtain ⟨e, h5, h4, h6⟩ := hI
  rw [e]
  have f32 : v4 < L → wpX9_readWord_32 K s L v4 v5 σ Q := by
    intro q
    have hc := hX.2.1 v4 (by omega) (by omega)
    unfold wpX9_readWord_32
    refine ⟨by omega, by omega, ih _ _ _ ⟨rfl, ?_, by omega, by omega⟩ (by omega)⟩
    rw [show (v4 + 1 - s).toNat = (v4 - s).toNat + 1 by omega]
    show v5 * 128 + zA σ 10 0 v4 = pkv (zA σ 10 0) s (v4 - s).toNat * 128 + zA σ 10 0 (s + ((v4 - s).toNat : Nat))
    rw [← h5, show s + (((v4 - s).toNat : Nat) : Int) = v4 by omega]
  unfold wpbX9_readWord_6
  refine ⟨by omega, by omega, fun a => f52 v4 v5 (by omega) h6 h5, fun a => ⟨by omega, ?_⟩⟩
  have hc := hX.2.1 v4 (by omega) (by omega)
  refine c_isLetter (by omega) (fun q => ⟨by decide, fun _ => f32 (by omega), fun q' => absurd q' (by decide)⟩) (fun q => ⟨by decide, fun q' => absurd rfl q', fun _ => ?_⟩)
  refine c_isDigit (by omega) (fun q2 => ⟨by decide, fun q' => absurd q' (by decide), fun _ => f32 (by omega)⟩) (fun q2 => ⟨by decide, fun _ => f52 v4 v5 ?_ h6 h5, fun q' => absurd rfl q'⟩)
  by_cases e5 : v4 = s
  · rw [e5] at q; exact absurd hd q
  · omega
/-- the tokens of a text end with an end -/
theorem c_read {σ : ZS} {L : Int} {Q : ZS → Prop} (hX : TX σ) (hN : NR σ) (hL : L = zI σ 10 1) (hQ : ∀ τ : ZS, RD τ → kp [11, 12] σ τ → (1 ≤ zI τ 12 3 ∧ zA τ 12 0 (zI τ 12 3 - 1) = 0) → Q τ) : wpX9_read L σ Q := by
  have hl := hX.1
  unfold wpX9_read wpX5_clear wpX9_read_17
  have f109 : ∀ τ : ZS, RD τ → kp [11, 12] σ τ → zI τ 12 3 ≤ 480 → wpX9_read_109 L τ Q := by
    intro τ ⟨uS, uR, uF, uT⟩ hk hz
    unfold wpX9_read_109
    refine c_put uT ⟨by decide, by decide, by omega, fun q => absurd q (by decide)⟩ hz (fun υ a b c d => hQ υ ⟨uS.k (b 11 (by decide)), uR.k (b 11 (by decide)), uF.k (b 11 (by decide)), a⟩ (hk.tr (b.up (by decide))) ⟨?_, ?_⟩)
    · have := uT.1; omega
    · rw [c, show zI τ 12 3 + 1 - 1 = zI τ 12 3 by omega]; exact d
  refine lfp2_ind (fun _ v _ => (480 - v).toNat) (fun v3 v4 τ => RD τ ∧ kp [11, 12] σ τ ∧ zI τ 12 3 ≤ v3 ∧ (0 ≤ v3 ∧ v3 ≤ L) ∧ 0 ≤ v4 ∧ v4 ≤ L) (fun K v3 v4 τ hI ih => ?_) ⟨⟨⟨(show (0 : Int) ≤ 0 ∧ (0 : Int) ≤ 240 by decide), (show (-1 : Int) ≤ -1 ∧ (-1 : Int) ≤ 480 by decide), fun q => absurd (show (25 : Int) ≤ 0 from q) (by decide)⟩, hN, fun n n0 n1 => ?_, ⟨(show (0 : Int) ≤ 0 ∧ (0 : Int) ≤ 481 by decide), fun i i0 i1 => ?_⟩⟩, ((kp.rf.ti (by decide)).ti (by decide)).ti (by decide), (show (0 : Int) ≤ 0 by decide), by omega, by omega⟩
  · obtain ⟨hr, hk, hz, h3, h4⟩ := hI
    have e10 := hk 10 (by decide)
    have hX' : TX τ := hX.k e10
    unfold wpbX9_read_17
    refine ⟨by omega, by omega, fun _ => f109 τ hr hk (by omega), fun a => ⟨by omega, fun _ => f109 τ hr hk (by omega), fun b => ⟨by omega, ?_⟩⟩⟩
    have hc := hX'.2.1 v3 (by omega) (by omega)
    have go : ∀ (x : Int) (υ : ZS), v3 < x → x ≤ L → RD υ → kp [11, 12] τ υ → zI υ 12 3 ≤ zI τ 12 3 + 1 → K x (v4 + 1) υ := fun x υ x0 x1 ur uk uz => ih _ _ _ ⟨ur, hk.tr uk, by omega, by omega, by omega⟩ (by omega)
    have f95 : ∀ t : Int, (0 ≤ t ∧ t ≤ 126) → t ≠ 3 → wpX9_read_95 K L v3 v4 t τ Q := by
      intro t ht h3'
      obtain ⟨uS, uR, uF, uT⟩ := hr
      unfold wpX9_read_95 wpX9_read_100 wpX9_read_103
      exact c_put uT ⟨ht, by decide, by omega, fun q => absurd q h3'⟩ (by omega) (fun υ a b c _ => go _ _ (by omega) (by omega) ⟨uS.k (b 11 (by decide)), uR.k (b 11 (by decide)), uF.k (b 11 (by decide)), a⟩ (b.up (by decide)) (by omega))
    refine c_isLetter (by omega) (fun q => ⟨by decide, fun q' => absurd q' (by decide), fun _ => ?_⟩) (fun q => ⟨by decide, fun _ => ?_, fun q' => absurd rfl q'⟩)
    · unfold wpX9_read_103
      exact c_readWord hX' hr (by omega) q (by omega) (fun x υ x0 x1 ur uk uz => go _ _ x0 x1 ur uk (by omega))
    · refine c_isDigit (by omega) (fun q => ⟨by decide, fun q' => absurd q' (by decide), fun _ => ?_⟩) (fun q => ⟨by decide, fun _ => ⟨by omega, fun _ => ?_, fun n32 => ?_⟩, fun q' => absurd rfl q'⟩)
      · unfold wpX9_read_103
        obtain ⟨uS, uR, uF, uT⟩ := hr
        exact c_readNumber hX' uT (by omega) q (by omega) (fun x υ x0 x1 ut uk uz => go _ _ x0 x1 ⟨uS.k (uk 11 (by decide)), uR.k (uk 11 (by decide)), uF.k (uk 11 (by decide)), ut⟩ (uk.up (by decide)) (by omega))
      · unfold wpX9_read_100 wpX9_read_103
        exact go _ _ (by omega) (by omega) hr kp.rf (by omega)
      · have h32 := hX'.2.2 v3 (by omega) (by rw [ob_I e10 1]; omega)
        exact c_indexOf (by omega) (fun x hx => ⟨by omega, fun _ => f95 1 (by decide) (by decide), fun _ => f95 _ (by omega) (by omega)⟩)
  · have n1' : n < 0 := n1
    omega
  · have i1' : i < 0 := i1
    omega
