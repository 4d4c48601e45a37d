/-! P: words, and the token as a whole -/
theorem p256 {k n : Nat} (h : k ≤ n) : (256 : Int) ^ k ≤ 256 ^ n := by
  have h2 := Nat.pow_le_pow_right (n := 256) (by decide) h
  have e : ∀ j : Nat, (256 : Int) ^ j = ((256 ^ j : Nat) : Int) := fun j => by rw [Int.natCast_pow]; rfl
  rw [e, e]; exact Int.ofNat_le.mpr h2
theorem s_next_78 {σ : ZS} {Q : ZS → Prop} {s : Int} (hT : Tx σ) (hs : 0 ≤ s ∧ s < zI σ 0 2) (h5 : zI σ 0 5 = s + 1) (hd : cL (zA σ 0 1 s)) (h8 : zI σ 0 8 = zA σ 0 1 s) (hQ : ∀ (τ : ZS) (e : Int), fr [5, 7, 8, 9] [] σ τ → isRun (fun j => cL (zA σ 0 1 j) ∨ cD (zA σ 0 1 j)) (zI σ 0 2) (s + 1) e → zI τ 0 5 = e → zI τ 0 7 = (if e - s ≤ 6 then 1 else 9) → zI τ 0 8 = wv (zA σ 0 1) s (min (e - s) 7).toNat → cdOf (zA σ 0 11) (zI τ 0 8) (zI τ 0 9) → Q τ) : wpX11_next_78 1 σ Q := by
  unfold wpX11_next_78
  have hch : ∀ j : Int, 0 ≤ j → j < zI σ 0 2 → 0 ≤ zA σ 0 1 j ∧ zA σ 0 1 j < 256 := fun j a b => by have := hT.2.1 j a b; omega
  refine lfp1_ind (fun _ τ => (zI σ 0 2 - zI τ 0 5).toNat) (fun n τ => fr [5, 8] [] σ τ ∧ 1 ≤ n ∧ zI τ 0 5 = s + n ∧ s + n ≤ zI σ 0 2 ∧ (∀ j : Int, s + 1 ≤ j → j < s + n → cL (zA σ 0 1 j) ∨ cD (zA σ 0 1 j)) ∧ zI τ 0 8 = wv (zA σ 0 1) s (min n 7).toNat) ?_ ⟨fr.rf, by omega, by omega, by omega, fun j a b => by omega, ?_⟩
  rotate_left
  · show zI σ 0 8 = 0 * 256 + zA σ 0 1 (s + ((0 : Nat) : Int))
    rw [h8, show s + ((0 : Nat) : Int) = s by omega]; omega
  intro P n τ hI hP
  obtain ⟨hf, hn, ha, hle, hr, hw⟩ := hI
  have e2 : zI τ 0 2 = zI σ 0 2 := hf.1 2 (by decide)
  have e1 : zA τ 0 1 = zA σ 0 1 := hf.2 1 (by decide)
  have e11 : zA τ 0 11 = zA σ 0 11 := hf.2 11 (by decide)
  have hL := hT.1
  have hb := wv_bd (h := zA σ 0 1) (s := s) (min n 7).toNat (fun j a b => hch j (by omega) (by omega))
  have hb7 : wv (zA σ 0 1) s (min n 7).toNat < 72057594037927936 := by
    have h7 : (256 : Int) ^ (min n 7).toNat ≤ 256 ^ 7 := by
      have : (min n 7).toNat ≤ 7 := by omega
      exact p256 this
    have : (256 : Int) ^ 7 = 72057594037927936 := by decide
    omega
  have hend : (zI σ 0 2 = s + n ∨ ¬ (cL (zA σ 0 1 (s + n)) ∨ cD (zA σ 0 1 (s + n)))) → (n ≤ 6 → wpX11_next_162 1 τ Q) ∧ (¬ n ≤ 6 → wpX11_next_162 9 τ Q) := by
    intro hx
    have hrun : isRun (fun j => cL (zA σ 0 1 j) ∨ cD (zA σ 0 1 j)) (zI σ 0 2) (s + 1) (s + n) := ⟨by omega, by omega, hr, by
      rcases hx with hx | hx
      · exact Or.inl hx.symm
      · exact Or.inr hx⟩
    have go : ∀ k : Int, k = (if n ≤ 6 then 1 else 9) → wpX11_next_162 k τ Q := by
      intro k hk
      unfold wpX11_next_162
      refine s_next_172 (fun j a b => by
        show zA τ 0 11 j = _
        rw [e11]; exact hT.2.2 j a b) (by
        show 0 ≤ zI τ 0 8 ∧ zI τ 0 8 ≤ _
        rw [hw]; omega) rfl (fun υ hv hc => ?_)
      have hfv : fr [5, 7, 8, 9] [] σ υ := (((hf.up (by decide) (by decide)).ti (by decide)).ti (by decide)).tr (hv.up (by decide) (by decide))
      have c5 : zI υ 0 5 = s + n := (hv.1 5 (by decide)).trans ha
      have c7 : zI υ 0 7 = k := hv.1 7 (by decide)
      have c8 : zI υ 0 8 = zI τ 0 8 := hv.1 8 (by decide)
      refine hQ υ (s + n) hfv hrun c5 ?_ ?_ ?_
      · rw [c7, hk, show s + n - s = n by omega]
      · rw [c8, hw, show s + n - s = n by omega]
      · rw [c8]
        have hc' : cdOf (zA τ 0 11) (zI τ 0 8) (zI υ 0 9) := hc
        rw [e11] at hc'
        exact hc'
    exact ⟨fun h => go 1 (by rw [if_pos h]), fun h => go 9 (by rw [if_neg h])⟩
  have hgo : (cL (zA σ 0 1 (s + n)) ∨ cD (zA σ 0 1 (s + n))) → s + n < zI σ 0 2 → wpX11_next_106 P n τ Q := by
    intro hx hlt
    unfold wpX11_next_106
    refine ⟨by omega, fun h7 => ?_, fun h7 => ?_⟩
    · unfold wpX11_next_133
      refine hP _ _ ⟨hf.ti (by decide), by omega, ?_, by omega, ?_, ?_⟩ ?_
      · show zI τ 0 5 + 1 = s + (n + 1)
        omega
      · intro j a b
        by_cases e : j = s + n
        · rw [e]; exact hx
        · exact hr j a (by omega)
      · show zI τ 0 8 = _
        rw [hw, show (min (n + 1) 7).toNat = (min n 7).toNat by omega]
      · show (zI σ 0 2 - (zI τ 0 5 + 1)).toNat < (zI σ 0 2 - zI τ 0 5).toNat
        omega
    · refine s_charAt (by rw [e2]; exact hL) (by omega) (fun h => by omega) (fun h => ?_)
      have hc := hch (s + n) (by omega) (by omega)
      rw [e1, ha]
      refine ⟨by omega, ?_⟩
      unfold wpX11_next_133
      refine hP _ _ ⟨(hf.ti (by decide)).ti (by decide), by omega, ?_, by omega, ?_, ?_⟩ ?_
      · show zI τ 0 5 + 1 = s + (n + 1)
        omega
      · intro j a b
        by_cases e : j = s + n
        · rw [e]; exact hx
        · exact hr j a (by omega)
      · show zlor (zI τ 0 8 * 256) (zA σ 0 1 (s + n)) = _
        have h6 : wv (zA σ 0 1) s (min n 7).toNat < 281474976710656 := by
          have h7 : (256 : Int) ^ (min n 7).toNat ≤ 256 ^ 6 := by
            have : (min n 7).toNat ≤ 6 := by omega
            exact p256 this
          have : (256 : Int) ^ 6 = 281474976710656 := by decide
          omega
        rw [hw, zlor_add (by omega) hc, show (min (n + 1) 7).toNat = (min n 7).toNat + 1 by omega]
        show _ = wv (zA σ 0 1) s (min n 7).toNat * 256 + zA σ 0 1 (s + (((min n 7).toNat : Nat) : Int))
        rw [show s + (((min n 7).toNat : Nat) : Int) = s + n by omega]
      · show (zI σ 0 2 - (zI τ 0 5 + 1)).toNat < (zI σ 0 2 - zI τ 0 5).toNat
        omega
  unfold wpbX11_next_78
  refine s_charAt (by rw [e2]; exact hL) (by omega) (fun h => ?_) (fun h => ?_)
  · refine s_letter (by omega) (fun h' => absurd h'.1 (by decide)) (fun _ => ⟨by omega, fun q => absurd rfl q, fun _ => ?_⟩)
    refine s_charAt (by rw [e2]; exact hL) (by omega) (fun _ => ?_) (fun _ => by omega)
    exact s_digit (by omega) (fun h' => absurd h'.1 (by decide)) (fun _ => ⟨by omega, fun _ => ⟨by omega, hend (Or.inl (by omega))⟩, fun q => absurd rfl q⟩)
  · have ht := hT.2.1 (s + n) (by omega) (by omega)
    rw [e1, ha]
    refine s_letter (by omega) (fun h' => ⟨by omega, fun _ => hgo (Or.inl h') (by omega), fun q => by omega⟩) (fun hnl => ⟨by omega, fun q => absurd rfl q, fun _ => ?_⟩)
    refine s_charAt (by rw [e2]; exact hL) (by omega) (fun _ => by omega) (fun _ => ?_)
    rw [e1, ha]
    refine s_digit (by omega) (fun h' => ⟨by omega, fun q => by omega, fun _ => hgo (Or.inr h') (by omega)⟩) (fun hnd => ⟨by omega, fun _ => ⟨by omega, hend (Or.inr (fun q => q.elim hnl hnd))⟩, fun q => absurd rfl q⟩)
/-- what reading a token does -/
def nxt (σ τ : ZS) : Prop := fr [5, 6, 7, 8, 9, 10] [] σ τ ∧ ∃ s e : Int, isRun (fun j => zA σ 0 1 j = 32) (zI σ 0 2) (zI σ 0 5) s ∧ zI τ 0 6 = s ∧ zI τ 0 5 = e ∧
  ((s = zI σ 0 2 ∧ e = s ∧ zI τ 0 7 = 0 ∧ zI τ 0 8 = zI σ 0 8 ∧ zI τ 0 9 = zI σ 0 9 ∧ zI τ 0 10 = zI σ 0 10) ∨
   (s < zI σ 0 2 ∧ cL (zA σ 0 1 s) ∧ isRun (fun j => cL (zA σ 0 1 j) ∨ cD (zA σ 0 1 j)) (zI σ 0 2) (s + 1) e ∧ zI τ 0 7 = (if e - s ≤ 6 then 1 else 9) ∧ zI τ 0 8 = wv (zA σ 0 1) s (min (e - s) 7).toNat ∧ cdOf (zA σ 0 11) (zI τ 0 8) (zI τ 0 9) ∧ zI τ 0 10 = zI σ 0 10) ∨
   (s < zI σ 0 2 ∧ cD (zA σ 0 1 s) ∧ isRun (fun j => cD (zA σ 0 1 j)) (zI σ 0 2) (s + 1) e ∧ zI τ 0 10 = nv (zA σ 0 1) s (e - s - 1).toNat ∧ zI τ 0 7 = (if zI τ 0 10 ≤ 65535 then 2 else 9) ∧ zI τ 0 8 = zI σ 0 8 ∧ zI τ 0 9 = zI σ 0 9) ∨
   (s < zI σ 0 2 ∧ ¬ cL (zA σ 0 1 s) ∧ ¬ cD (zA σ 0 1 s) ∧ e = s + 1 ∧ ((cS (zA σ 0 1 s) ∧ zI τ 0 7 = zA σ 0 1 s) ∨ (¬ cS (zA σ 0 1 s) ∧ zI τ 0 7 = 9)) ∧ zI τ 0 8 = zI σ 0 8 ∧ zI τ 0 9 = zI σ 0 9 ∧ zI τ 0 10 = zI σ 0 10))
theorem s_next {σ : ZS} {Q : ZS → Prop} (hT : Tx σ) (h5 : 0 ≤ zI σ 0 5 ∧ zI σ 0 5 ≤ zI σ 0 2) (hQ : ∀ τ : ZS, nxt σ τ → Q τ) : wpX11_next σ Q := by
  unfold wpX11_next wpX11_next_0
  refine lfp0_ind (fun τ => (zI σ 0 2 - zI τ 0 5).toNat) (fun τ => fr [5] [] σ τ ∧ zI σ 0 5 ≤ zI τ 0 5 ∧ zI τ 0 5 ≤ zI σ 0 2 ∧ ∀ j : Int, zI σ 0 5 ≤ j → j < zI τ 0 5 → zA σ 0 1 j = 32) ?_ ⟨fr.rf, by omega, by omega, fun j a b => by omega⟩
  intro P τ hI hP
  obtain ⟨hf, ha, hle, hr⟩ := hI
  have e2 : zI τ 0 2 = zI σ 0 2 := hf.1 2 (by decide)
  have e1 : zA τ 0 1 = zA σ 0 1 := hf.2 1 (by decide)
  have e8 : zI τ 0 8 = zI σ 0 8 := hf.1 8 (by decide)
  have e9 : zI τ 0 9 = zI σ 0 9 := hf.1 9 (by decide)
  have e10 : zI τ 0 10 = zI σ 0 10 := hf.1 10 (by decide)
  have hTt : Tx τ := hT.fr hf (by decide) (by decide) (by decide)
  have hL := hT.1
  have hff : fr [5, 6, 7, 8, 9, 10] [] σ τ := hf.up (by decide) (by decide)
  unfold wpbX11_next_0
  refine s_charAt (by rw [e2]; exact hL) (by omega) (fun h => ?_) (fun h => ?_)
  · refine ⟨by omega, fun _ => ?_, fun q => absurd q (by decide)⟩
    refine s_charAt (by show 0 ≤ zI τ 0 2 ∧ zI τ 0 2 ≤ 480; rw [e2]; exact hL) (by omega) (fun _ => ⟨by omega, fun q => absurd rfl q, fun _ => ?_⟩) (fun q => by have q' : zI τ 0 5 < zI τ 0 2 := q; omega)
    refine hQ _ ⟨(hff.ti (by decide)).ti (by decide), zI τ 0 5, zI τ 0 5, ⟨ha, hle, hr, Or.inl (by omega)⟩, rfl, rfl, Or.inl ⟨by omega, rfl, rfl, e8, e9, e10⟩⟩
  · have ht := hT.2.1 (zI τ 0 5) (by omega) (by omega)
    rw [e1]
    refine ⟨by omega, fun hns => ?_, fun hsp => ?_⟩
    rotate_left
    · refine hP _ ⟨hf.ti (by decide), ?_, ?_, ?_⟩ ?_
      · show zI σ 0 5 ≤ zI τ 0 5 + 1
        omega
      · show zI τ 0 5 + 1 ≤ zI σ 0 2
        omega
      · intro j a b
        have b' : j < zI τ 0 5 + 1 := b
        by_cases e : j = zI τ 0 5
        · rw [e]; exact hsp
        · exact hr j a (by omega)
      · show (zI σ 0 2 - (zI τ 0 5 + 1)).toNat < (zI σ 0 2 - zI τ 0 5).toNat
        omega
    have hrun : isRun (fun j => zA σ 0 1 j = 32) (zI σ 0 2) (zI σ 0 5) (zI τ 0 5) := ⟨ha, hle, hr, Or.inr hns⟩
    refine s_charAt (by show 0 ≤ zI τ 0 2 ∧ zI τ 0 2 ≤ 480; rw [e2]; exact hL) (by omega) (fun q => by have q' : zI τ 0 2 ≤ zI τ 0 5 := q; omega) (fun _ => ?_)
    show _ ∧ _
    have ec : zA (zsI τ 0 6 (zI τ 0 5)) 0 1 (zI τ 0 5) = zA σ 0 1 (zI τ 0 5) := by show zA τ 0 1 _ = _; rw [e1]
    rw [ec]
    refine ⟨by omega, fun _ => ?_, fun q => by omega⟩
    refine s_letter (by omega) (fun hl => ⟨by omega, fun q => by omega, fun _ => ?_⟩) (fun hnl => ⟨by omega, fun _ => ?_, fun q => absurd rfl q⟩)
    · refine s_next_78 (s := zI τ 0 5) (by
          refine hTt.fr (fs := [5, 6, 7, 8]) (as := []) ?_ (by decide) (by decide) (by decide)
          exact ((((fr.rf.ti (by decide)).ti (by decide)).ti (by decide)).ti (by decide))) (by show 0 ≤ zI τ 0 5 ∧ zI τ 0 5 < zI τ 0 2; omega) rfl (by show cL (zA τ 0 1 _); rw [e1]; exact hl) (by show zA σ 0 1 _ = zA τ 0 1 _; rw [e1]) ?_
      intro υ e hv hrv c5 c7 c8 cc
      have hv1 : zA (zsI (zsI (zsI (zsI τ 0 6 (zI τ 0 5)) 0 7 (zA σ 0 1 (zI τ 0 5))) 0 5 (zI (zsI τ 0 6 (zI τ 0 5)) 0 5 + 1)) 0 8 (zA σ 0 1 (zI τ 0 5))) 0 1 = zA σ 0 1 := e1
      have hv2 : zI (zsI (zsI (zsI (zsI τ 0 6 (zI τ 0 5)) 0 7 (zA σ 0 1 (zI τ 0 5))) 0 5 (zI (zsI τ 0 6 (zI τ 0 5)) 0 5 + 1)) 0 8 (zA σ 0 1 (zI τ 0 5))) 0 2 = zI σ 0 2 := e2
      have hv11 : zA (zsI (zsI (zsI (zsI τ 0 6 (zI τ 0 5)) 0 7 (zA σ 0 1 (zI τ 0 5))) 0 5 (zI (zsI τ 0 6 (zI τ 0 5)) 0 5 + 1)) 0 8 (zA σ 0 1 (zI τ 0 5))) 0 11 = zA σ 0 11 := hf.2 11 (by decide)
      rw [hv1, hv2] at hrv
      rw [hv1] at c8
      rw [hv11] at cc
      refine hQ υ ⟨((((hff.ti (by decide)).ti (by decide)).ti (by decide)).ti (by decide)).tr (hv.up (by decide) (by decide)), zI τ 0 5, e, hrun, hv.1 6 (by decide), c5, Or.inr (Or.inl ⟨by omega, hl, hrv, c7, c8, cc, (hv.1 10 (by decide)).trans e10⟩)⟩
    · refine s_digit (by omega) (fun hd => ⟨by omega, fun q => by omega, fun _ => ?_⟩) (fun hnd => ⟨by omega, fun _ => ?_, fun q => absurd rfl q⟩)
      · refine s_next_221 (s := zI τ 0 5) (by
            refine hTt.fr (fs := [5, 6, 7, 10]) (as := []) ?_ (by decide) (by decide) (by decide)
            exact ((((fr.rf.ti (by decide)).ti (by decide)).ti (by decide)).ti (by decide))) (by show 0 ≤ zI τ 0 5 ∧ zI τ 0 5 < zI τ 0 2; omega) rfl (by show cD (zA τ 0 1 _); rw [e1]; exact hd) (by show zA σ 0 1 _ - 48 = zA τ 0 1 _ - 48; rw [e1]) ?_
        intro υ e hv hrv c5 c10 c7
        have hv1 : zA (zsI (zsI (zsI (zsI τ 0 6 (zI τ 0 5)) 0 7 (zA σ 0 1 (zI τ 0 5))) 0 5 (zI (zsI τ 0 6 (zI τ 0 5)) 0 5 + 1)) 0 10 (zA σ 0 1 (zI τ 0 5) - 48)) 0 1 = zA σ 0 1 := e1
        have hv2 : zI (zsI (zsI (zsI (zsI τ 0 6 (zI τ 0 5)) 0 7 (zA σ 0 1 (zI τ 0 5))) 0 5 (zI (zsI τ 0 6 (zI τ 0 5)) 0 5 + 1)) 0 10 (zA σ 0 1 (zI τ 0 5) - 48)) 0 2 = zI σ 0 2 := e2
        rw [hv1, hv2] at hrv
        rw [hv1] at c10
        refine hQ υ ⟨((((hff.ti (by decide)).ti (by decide)).ti (by decide)).ti (by decide)).tr (hv.up (by decide) (by decide)), zI τ 0 5, e, hrun, hv.1 6 (by decide), c5, Or.inr (Or.inr (Or.inl ⟨by omega, hd, hrv, c10, c7, (hv.1 8 (by decide)).trans e8, (hv.1 9 (by decide)).trans e9⟩))⟩
      · have fin : ∀ k : Int, ((cS (zA σ 0 1 (zI τ 0 5)) ∧ k = zA σ 0 1 (zI τ 0 5)) ∨ (¬ cS (zA σ 0 1 (zI τ 0 5)) ∧ k = 9)) → ∀ υ : ZS, fr [5, 6, 7, 8, 9, 10] [] σ υ → zI υ 0 6 = zI τ 0 5 → zI υ 0 5 = zI τ 0 5 + 1 → zI υ 0 7 = k → zI υ 0 8 = zI σ 0 8 → zI υ 0 9 = zI σ 0 9 → zI υ 0 10 = zI σ 0 10 → Q υ := by
          intro k hk υ hv q6 q5 q7 q8 q9 q10
          rw [← q7] at hk
          exact hQ υ ⟨hv, zI τ 0 5, zI τ 0 5 + 1, hrun, q6, q5, Or.inr (Or.inr (Or.inr ⟨by omega, hnl, hnd, rfl, hk, q8, q9, q10⟩))⟩
        unfold wpX11_next_365
        have hf3 : fr [5, 6, 7, 8, 9, 10] [] σ (zsI (zsI (zsI τ 0 6 (zI τ 0 5)) 0 7 (zA σ 0 1 (zI τ 0 5))) 0 5 (zI (zsI τ 0 6 (zI τ 0 5)) 0 5 + 1)) := ((hff.ti (by decide)).ti (by decide)).ti (by decide)
        have sg : cS (zA σ 0 1 (zI τ 0 5)) → Q (zsI (zsI (zsI τ 0 6 (zI τ 0 5)) 0 7 (zA σ 0 1 (zI τ 0 5))) 0 5 (zI (zsI τ 0 6 (zI τ 0 5)) 0 5 + 1)) := fun hc => fin _ (Or.inl ⟨hc, rfl⟩) _ hf3 rfl rfl rfl e8 e9 e10
        refine ⟨fun h1 => sg (Or.inl h1), fun n1 => ⟨fun h1 => sg (Or.inr (Or.inl h1)), fun n2 => ⟨fun h1 => sg (Or.inr (Or.inr (Or.inl h1))), fun n3 => ⟨fun h1 => sg (Or.inr (Or.inr (Or.inr (Or.inl h1)))), fun n4 => ⟨fun h1 => sg (Or.inr (Or.inr (Or.inr (Or.inr (Or.inl h1))))), fun n5 => ⟨fun h1 => sg (Or.inr (Or.inr (Or.inr (Or.inr (Or.inr (Or.inl h1)))))), fun n6 => ⟨fun h1 => sg (Or.inr (Or.inr (Or.inr (Or.inr (Or.inr (Or.inr (Or.inl h1))))))), fun n7 => ⟨fun h1 => sg (Or.inr (Or.inr (Or.inr (Or.inr (Or.inr (Or.inr (Or.inr h1))))))), fun n8 => ?_⟩⟩⟩⟩⟩⟩⟩⟩
        refine fin 9 (Or.inr ⟨?_, rfl⟩) _ (hf3.ti (by decide)) rfl rfl rfl e8 e9 e10
        unfold cS
        omega
