/-! P: the reference reads a token -/
def Tx (σ : ZS) : Prop := (0 ≤ zI σ 0 2 ∧ zI σ 0 2 ≤ 480) ∧ (∀ j : Int, 0 ≤ j → j < zI σ 0 2 → 32 ≤ zA σ 0 1 j ∧ zA σ 0 1 j ≤ 126) ∧ (∀ k : Int, 0 ≤ k → k < 48 → zA σ 0 11 k = zwords k)
theorem Tx.fr {fs as : List Nat} {σ τ : ZS} (h : Tx σ) (k : fr fs as σ τ) (h2 : 2 ∉ fs) (h1 : 1 ∉ as) (h11 : 11 ∉ as) : Tx τ := by
  unfold Tx
  rw [k.1 2 h2, k.2 1 h1, k.2 11 h11]
  exact h
theorem s_charAt {k : Int} {σ : ZS} {Q : Int → ZS → Prop} (hL : 0 ≤ zI σ 0 2 ∧ zI σ 0 2 ≤ 480) (hk : 0 ≤ k ∧ k ≤ 100000) (h1 : zI σ 0 2 ≤ k → Q 0 σ) (h2 : k < zI σ 0 2 → Q (zA σ 0 1 k) σ) : wpX11_charAt k σ Q := by
  unfold wpX11_charAt wpX11_charAt_18
  exact ⟨by omega, by omega, h1, fun h => ⟨by omega, h2 (by omega)⟩⟩
theorem s_letter {c : Int} {σ : ZS} {Q : Int → ZS → Prop} (hc : -1000000 ≤ c ∧ c ≤ 1000000) (h1 : cL c → Q 1 σ) (h2 : ¬ cL c → Q 0 σ) : wpX11_letter c σ Q := by
  unfold wpX11_letter wpX11_letter_16 wpX11_letter_17
  unfold cL at h1 h2
  exact ⟨by omega, fun h => ⟨by omega, h2 (by omega)⟩, fun h => ⟨fun k => ⟨by omega, h2 (by omega)⟩, fun k => ⟨by omega, h1 (by omega)⟩⟩⟩
theorem s_digit {c : Int} {σ : ZS} {Q : Int → ZS → Prop} (hc : -1000000 ≤ c ∧ c ≤ 1000000) (h1 : cD c → Q 1 σ) (h2 : ¬ cD c → Q 0 σ) : wpX11_digit c σ Q := by
  unfold wpX11_digit wpX11_digit_16 wpX11_digit_17
  unfold cD at h1 h2
  exact ⟨by omega, fun h => ⟨by omega, h2 (by omega)⟩, fun h => ⟨fun k => ⟨by omega, h2 (by omega)⟩, fun k => ⟨by omega, h1 (by omega)⟩⟩⟩
/-- the number of the word among the words, the last one that is it -/
def cdOf (h : Int → Int) (w c : Int) : Prop := (c = -1 ∧ ∀ k : Int, 0 ≤ k → k < 48 → h k ≠ w) ∨ (0 ≤ c ∧ c < 48 ∧ h c = w ∧ ∀ k : Int, c < k → k < 48 → h k ≠ w)
theorem s_next_172 {σ : ZS} {Q : ZS → Prop} (hT : ∀ k : Int, 0 ≤ k → k < 48 → zA σ 0 11 k = zwords k) (hw : 0 ≤ zI σ 0 8 ∧ zI σ 0 8 ≤ 72057594037927936) (h9 : zI σ 0 9 = -1) (hQ : ∀ τ : ZS, fr [9] [] σ τ → cdOf (zA σ 0 11) (zI σ 0 8) (zI τ 0 9) → Q τ) : wpX11_next_172 0 σ Q := by
  unfold wpX11_next_172
  refine lfp1_ind (fun k _ => (48 - k).toNat) (fun k τ => (0 ≤ k ∧ k ≤ 48) ∧ fr [9] [] σ τ ∧ ((zI τ 0 9 = -1 ∧ ∀ j : Int, 0 ≤ j → j < k → zA σ 0 11 j ≠ zI σ 0 8) ∨ (0 ≤ zI τ 0 9 ∧ zI τ 0 9 < k ∧ zA σ 0 11 (zI τ 0 9) = zI σ 0 8 ∧ ∀ j : Int, zI τ 0 9 < j → j < k → zA σ 0 11 j ≠ zI σ 0 8))) ?_ ⟨by omega, fr.rf, Or.inl ⟨h9, fun j a b => by omega⟩⟩
  intro P k τ hI hP
  obtain ⟨hk, hf, hc⟩ := hI
  have e11 : zA τ 0 11 = zA σ 0 11 := hf.2 11 (by decide)
  have e8 : zI τ 0 8 = zI σ 0 8 := hf.1 8 (by decide)
  unfold wpbX11_next_172 wpX11_next_365 wpX11_next_197
  refine ⟨by omega, fun h => hQ τ hf ?_, fun h => ?_⟩
  · have : k = 48 := by omega
    subst this
    rcases hc with hc | hc
    · exact Or.inl hc
    · exact Or.inr hc
  · have hr := zw_rng (k := k) (by omega) (by omega)
    have ht := hT k (by omega) (by omega)
    rw [e11, e8, ht]
    refine ⟨by omega, by omega, by omega, fun hne => hP _ _ ⟨by omega, hf, ?_⟩ (by omega), fun he => hP _ _ ⟨by omega, hf.ti (by decide), Or.inr ?_⟩ (by omega)⟩
    · rcases hc with hc | hc
      · exact Or.inl ⟨hc.1, fun j a b => by
          by_cases e : j = k
          · rw [e, ht]; exact hne
          · exact hc.2 j a (by omega)⟩
      · refine Or.inr ⟨hc.1, by omega, hc.2.2.1, fun j a b => ?_⟩
        by_cases e : j = k
        · rw [e, ht]; exact hne
        · exact hc.2.2.2 j a (by omega)
    · rw [pI, if_pos rfl, if_pos rfl]
      exact ⟨by omega, by omega, ht.trans he, fun j a b => by omega⟩
theorem s_next_221 {σ : ZS} {Q : ZS → Prop} {s : Int} (hT : Tx σ) (hs : 0 ≤ s ∧ s < zI σ 0 2) (h5 : zI σ 0 5 = s + 1) (hd : cD (zA σ 0 1 s)) (h10 : zI σ 0 10 = zA σ 0 1 s - 48) (hQ : ∀ (τ : ZS) (e : Int), fr [5, 7, 10] [] σ τ → isRun (fun j => cD (zA σ 0 1 j)) (zI σ 0 2) (s + 1) e → zI τ 0 5 = e → zI τ 0 10 = nv (zA σ 0 1) s (e - s - 1).toNat → zI τ 0 7 = (if zI τ 0 10 ≤ 65535 then 2 else 9) → Q τ) : wpX11_next_221 σ Q := by
  unfold wpX11_next_221
  refine lfp0_ind (fun τ => (zI σ 0 2 - zI τ 0 5).toNat) (fun τ => fr [5, 7, 10] [] σ τ ∧ (s + 1 ≤ zI τ 0 5 ∧ zI τ 0 5 ≤ zI σ 0 2) ∧ (∀ j : Int, s + 1 ≤ j → j < zI τ 0 5 → cD (zA σ 0 1 j)) ∧ zI τ 0 10 = nv (zA σ 0 1) s (zI τ 0 5 - s - 1).toNat) ?_ ⟨fr.rf, by omega, fun j a b => by omega, by rw [h5, show (s + 1 - s - 1).toNat = 0 by omega]; exact h10⟩
  intro P τ hI hP
  obtain ⟨hf, ha, hr, hn⟩ := hI
  have e2 : zI τ 0 2 = zI σ 0 2 := hf.1 2 (by decide)
  have e1 : zA τ 0 1 = zA σ 0 1 := hf.2 1 (by decide)
  have hb := nv_bd (h := zA σ 0 1) (s := s) (zI τ 0 5 - s - 1).toNat (fun j a b => by
    by_cases e : j = s
    · rw [e]; exact hd
    · exact hr j (by omega) (by omega))
  rw [← hn] at hb
  have hend : (zI σ 0 2 = zI τ 0 5 ∨ ¬ cD (zA σ 0 1 (zI τ 0 5))) → (zI τ 0 10 ≤ 65535 → wpX11_next_305 2 τ Q) ∧ (¬ zI τ 0 10 ≤ 65535 → wpX11_next_305 9 τ Q) := by
    intro hx
    have hrun : isRun (fun j => cD (zA σ 0 1 j)) (zI σ 0 2) (s + 1) (zI τ 0 5) := ⟨by omega, by omega, hr, by
      rcases hx with hx | hx
      · exact Or.inl hx.symm
      · exact Or.inr hx⟩
    unfold wpX11_next_305 wpX11_next_365
    exact ⟨fun h => hQ _ _ (hf.ti (by decide)) hrun rfl hn (by rw [if_pos (show zI (zsI τ 0 7 2) 0 10 ≤ 65535 from h)]; rfl), fun h => hQ _ _ (hf.ti (by decide)) hrun rfl hn (by rw [if_neg (show ¬ zI (zsI τ 0 7 9) 0 10 ≤ 65535 from h)]; rfl)⟩
  unfold wpbX11_next_221
  refine s_charAt (by rw [e2]; exact hT.1) (by have := hT.1; omega) (fun h => ?_) (fun h => ?_)
  · refine s_digit (by omega) (fun h' => absurd h'.1 (by decide)) (fun _ => ⟨by omega, fun _ => ⟨by omega, hend (Or.inl (by omega))⟩, fun q => absurd rfl q⟩)
  · have ht := hT.2.1 (zI τ 0 5) (by omega) (by omega)
    rw [e1]
    refine s_digit (by omega) (fun h' => ⟨by omega, fun q => by omega, fun _ => ⟨by omega, fun h6 => ?_, fun h6 => ?_⟩⟩) (fun h' => ⟨by omega, fun _ => ⟨by omega, hend (Or.inr h')⟩, fun q => absurd rfl q⟩)
    · refine s_charAt (by rw [e2]; exact hT.1) (by have := hT.1; omega) (fun h9 => by omega) (fun h9 => ?_)
      unfold wpX11_next_272
      refine hP _ ⟨(hf.ti (by decide)).ti (by decide), ?_, ?_, ?_⟩ ?_
      · show s + 1 ≤ zI τ 0 5 + 1 ∧ zI τ 0 5 + 1 ≤ zI σ 0 2
        omega
      · intro j a b
        have b' : j < zI τ 0 5 + 1 := b
        by_cases e : j = zI τ 0 5
        · rw [e]; exact h'
        · exact hr j a (by omega)
      · show 10 * zI τ 0 10 + zA τ 0 1 (zI τ 0 5) - 48 = nv (zA σ 0 1) s (zI τ 0 5 + 1 - s - 1).toNat
        rw [show (zI τ 0 5 + 1 - s - 1).toNat = (zI τ 0 5 - s - 1).toNat + 1 by omega]
        show _ = (if nv (zA σ 0 1) s (zI τ 0 5 - s - 1).toNat ≤ 100000 then _ else _)
        rw [← hn, if_pos h6, e1, show s + 1 + ((zI τ 0 5 - s - 1).toNat : Int) = zI τ 0 5 by omega]
      · show (zI σ 0 2 - (zI τ 0 5 + 1)).toNat < (zI σ 0 2 - zI τ 0 5).toNat
        omega
    · unfold wpX11_next_272
      refine hP _ ⟨(hf.ti (by decide)).ti (by decide), ?_, ?_, ?_⟩ ?_
      · show s + 1 ≤ zI τ 0 5 + 1 ∧ zI τ 0 5 + 1 ≤ zI σ 0 2
        omega
      · intro j a b
        have b' : j < zI τ 0 5 + 1 := b
        by_cases e : j = zI τ 0 5
        · rw [e]; exact h'
        · exact hr j a (by omega)
      · show zI τ 0 10 = nv (zA σ 0 1) s (zI τ 0 5 + 1 - s - 1).toNat
        rw [show (zI τ 0 5 + 1 - s - 1).toNat = (zI τ 0 5 - s - 1).toNat + 1 by omega]
        show _ = (if nv (zA σ 0 1) s (zI τ 0 5 - s - 1).toNat ≤ 100000 then _ else _)
        rw [← hn, if_neg h6]
      · show (zI σ 0 2 - (zI τ 0 5 + 1)).toNat < (zI σ 0 2 - zI τ 0 5).toNat
        omega
