/-! Y: the reference combines, exactly -/
/-- how many segments of a module count -/
def cR (σ : ZS) (m : Int) : Int := if zA σ 0 43 m = 0 then 0 else zA σ 0 44 m
def RH (σ τ : ZS) (a b : Int) (t : CbS) : Prop := (zI τ 0 73 = t.n ∧ ∀ i : Int, 0 ≤ i → i < t.n → zA τ 0 68 i = t.nm i ∧ zA τ 0 69 i = t.sz i) ∧ ∀ m s : Int, 0 ≤ m → m ≤ 2 → 0 ≤ s → s < zA σ 0 44 m → zA σ 0 43 m ≠ 0 → (m < a ∨ (m = a ∧ s < b)) → zA τ 0 71 (24 * m + s) = t.wh (24 * m + s) ∧ zA τ 0 72 (24 * m + s) = t.bg (24 * m + s)
theorem y_combine {σ : ZS} {Q : ZS → Prop} (hA : MA σ) (hQ : ∀ τ : ZS, fr [73] CA σ τ → CB τ → RH σ τ 3 0 (cAl (zA σ 0 45) (zA σ 0 46) (zA σ 0 48) (cR σ) 3) → (∀ i : Int, 0 ≤ i → i < CbS.n (cAl (zA σ 0 45) (zA σ 0 46) (zA σ 0 48) (cR σ) 3) → zA τ 0 70 i = upA (pE (CbS.sz (cAl (zA σ 0 45) (zA σ 0 46) (zA σ 0 48) (cR σ) 3)) i.toNat) 16) → zA τ 0 67 0 = pE (CbS.sz (cAl (zA σ 0 45) (zA σ 0 46) (zA σ 0 48) (cR σ) 3)) (CbS.n (cAl (zA σ 0 45) (zA σ 0 46) (zA σ 0 48) (cR σ) 3)).toNat → Q τ) : wpX11_combine σ Q := by
  have f195 : ∀ (τ : ZS) (t : CbS), t = (cAl (zA σ 0 45) (zA σ 0 46) (zA σ 0 48) (cR σ) 3) → Cmb σ τ 72 → Done σ τ 3 0 → RH σ τ 3 0 t → wpX11_combine_195 0 0 τ Q := by
    intro τ0 t et h0 hD0 hr0
    rw [← et] at hQ
    unfold wpX11_combine_195
    refine lfp2_ind (fun _ v _ => (zI τ0 0 73 - v).toNat) (fun e v τ => fr [] [70] τ0 τ ∧ (0 ≤ v ∧ v ≤ zI τ0 0 73) ∧ (0 ≤ e ∧ e ≤ 30000 * v) ∧ (∀ j : Int, 0 ≤ j → j < v → 0 ≤ zA τ 0 70 j ∧ zA τ 0 70 j + zA τ0 0 69 j ≤ e) ∧ e = pE t.sz v.toNat ∧ ∀ i : Int, 0 ≤ i → i < v → zA τ 0 70 i = upA (pE t.sz i.toNat) 16) ?_ ⟨fr.rf, by have := h0.2.1; omega, by omega, fun j a b => absurd b (by omega), rfl, fun i i0 i1 => absurd i1 (by omega)⟩
    intro P e v τ ⟨hf, hv, he, hj, hpe, hpl⟩ ih
    show wpbX11_combine_195 P e v τ Q
    have i73 : zI τ 0 73 = zI τ0 0 73 := hf.1 73 (by simp)
    have a69 : zA τ 0 69 = zA τ0 0 69 := hf.2 69 (by decide)
    have h73 := h0.2.1
    unfold wpbX11_combine_195
    rw [i73, a69]
    refine ⟨by omega, by omega, fun q => ?_, fun nq => ?_⟩
    · have hev : v = zI τ0 0 73 := by omega
      have hff : fr [73] CA σ (zsA τ 0 67 0 e) := (h0.1.tr (hf.up (by decide) (by decide))).ta (by decide)
      refine hQ _ hff ⟨?_, fun m s m0 m1 s0 s1 h43 => ?_, fun j j0 j1 => ?_, ?_⟩ ⟨⟨?_, fun i i0 i1 => ?_⟩, fun m s m0 m1 s0 s1 h43 q => ?_⟩ (fun i i0 i1 => hpl i i0 (by have := hr0.1.1; omega)) ?_
      · show 0 ≤ zI τ 0 73 ∧ zI τ 0 73 ≤ 72
        rw [i73]; exact h73
      · rw [hff.2 44 (by decide)] at s1
        rw [hff.2 43 (by decide)] at h43
        have hd := hD0 m s m0 m1 s0 s1 h43 (Or.inl (by omega))
        show (0 ≤ zA τ 0 71 (24 * m + s) ∧ zA τ 0 71 (24 * m + s) < zI τ 0 73) ∧ 0 ≤ zA τ 0 72 (24 * m + s) ∧ zA τ 0 72 (24 * m + s) + zA τ 0 48 (24 * m + s) ≤ zA τ 0 69 (zA τ 0 71 (24 * m + s))
        rw [i73, a69, hf.2 71 (by decide), hf.2 72 (by decide), hf.2 48 (by decide), h0.1.2 48 (by decide)]
        exact hd
      · have j1' : j < zI τ0 0 73 := by
          have : j < zI τ 0 73 := j1
          omega
        show (0 ≤ zA τ 0 69 j ∧ zA τ 0 69 j ≤ 30000) ∧ 0 ≤ zA τ 0 70 j ∧ zA τ 0 70 j + zA τ 0 69 j ≤ zu (zA τ 0 67) 0 e 0
        rw [pu_eq, a69]
        have h1 := (h0.2.2 j j0 j1').1
        have h2 := hj j j0 (by omega)
        omega
      · show 0 ≤ zu (zA τ 0 67) 0 e 0 ∧ zu (zA τ 0 67) 0 e 0 ≤ 3000000
        rw [pu_eq]; omega
      · show zI τ 0 73 = t.n
        rw [i73]; exact hr0.1.1
      · show zA τ 0 68 i = t.nm i ∧ zA τ 0 69 i = t.sz i
        rw [a69, hf.2 68 (by decide)]; exact hr0.1.2 i i0 i1
      · show zA τ 0 71 (24 * m + s) = t.wh (24 * m + s) ∧ zA τ 0 72 (24 * m + s) = t.bg (24 * m + s)
        rw [hf.2 71 (by decide), hf.2 72 (by decide)]
        exact hr0.2 m s m0 m1 s0 s1 h43 q
      · show zu (zA τ 0 67) 0 e 0 = _
        rw [pu_eq, hpe, show t.n = v by have := hr0.1.1; omega]
    · have h69 := (h0.2.2 v hv.1 (by omega)).1
      have ez : zA (zsA τ 0 70 v ((e + 15) / 16 * 16)) 0 70 v = (e + 15) / 16 * 16 := pu_eq (h := zA τ 0 70)
      rw [ez]
      refine ⟨by omega, by omega, ih _ _ _ ⟨hf.ta (by decide), by omega, by omega, fun j j0 j1 => ?_, ?_, fun i i0 i1 => ?_⟩ (by show (zI τ0 0 73 - (v + 1)).toNat < (zI τ0 0 73 - v).toNat; omega)⟩
      rotate_left
      · rw [(hr0.1.2 v hv.1 (by have := hr0.1.1; omega)).2, show (v + 1).toNat = v.toNat + 1 by omega]
        show _ = upA (pE t.sz v.toNat) 16 + t.sz (v.toNat : Int)
        rw [show ((v.toNat : Nat) : Int) = v by omega, ← hpe]
        unfold upA
        rw [show e + 16 - 1 = e + 15 by omega]
      · show zu (zA τ 0 70) v ((e + 15) / 16 * 16) i = _
        by_cases ei : i = v
        · rw [ei, pu_eq, ← hpe]; unfold upA; rw [show e + 16 - 1 = e + 15 by omega]
        · rw [pu_ne ei]; exact hpl i i0 (by omega)
      show 0 ≤ zu (zA τ 0 70) v ((e + 15) / 16 * 16) j ∧ zu (zA τ 0 70) v ((e + 15) / 16 * 16) j + zA τ0 0 69 j ≤ _
      by_cases ej : j = v
      · rw [ej, pu_eq]; omega
      · rw [pu_ne ej]
        have := hj j j0 (by omega)
        omega
  unfold wpX11_combine wpX11_combine_7
  refine lfp1_ind (fun v _ => (3 - v).toNat) (fun v τ => (0 ≤ v ∧ v ≤ 3) ∧ Cmb σ τ (24 * v) ∧ Done σ τ v 0 ∧ RH σ τ v 0 (cAl (zA σ 0 45) (zA σ 0 46) (zA σ 0 48) (cR σ) v.toNat)) ?_ ⟨by omega, ⟨fr.i (by decide), by show 0 ≤ (0 : Int) ∧ (0 : Int) ≤ 24 * 0; decide, fun j a b => absurd b (by show ¬ j < 0; omega)⟩, fun m s m0 m1 s0 s1 h43 q => by omega, ⟨rfl, fun i i0 i1 => absurd (show i < 0 from i1) (by omega)⟩, fun m s m0 m1 s0 s1 h43 q => by omega⟩
  intro P m τ ⟨hm, hC, hD, hH⟩ ih
  show wpbX11_combine_7 P m τ Q
  unfold wpbX11_combine_7
  refine ⟨by omega, fun q => ?_, fun nq => ?_⟩
  · have e3 : m = 3 := by omega
    rw [e3] at hC hD hH
    exact f195 τ _ rfl hC hD hH
  have hMI := hA.2 m hm.1 (by omega)
  have hM := hMI.1.1
  have h43 := hA.1.2.2.2.2 m hm.1 (by omega)
  unfold wpX11_combine_14
  refine lfp1_ind (fun v _ => (24 - v).toNat) (fun v τ => (0 ≤ v ∧ v ≤ zA σ 0 44 m) ∧ Cmb σ τ (24 * m + v) ∧ Done σ τ m v ∧ RH σ τ m v (cSg (zA σ 0 45) (zA σ 0 46) (zA σ 0 48) m (cAl (zA σ 0 45) (zA σ 0 46) (zA σ 0 48) (cR σ) m.toNat) v.toNat) ∧ (zA σ 0 43 m = 0 → v = 0)) ?_ ⟨by omega, by rw [Int.add_zero]; exact hC, hD, hH, fun _ => rfl⟩
  intro P14 s τ1 ⟨hs, hC1, hD1, hH1, hz1⟩ ih14
  generalize et : cSg (zA σ 0 45) (zA σ 0 46) (zA σ 0 48) m (cAl (zA σ 0 45) (zA σ 0 46) (zA σ 0 48) (cR σ) m.toNat) s.toNat = t at hH1
  show wpbX11_combine_14 P P14 m s τ1 Q
  unfold wpbX11_combine_14 wpX11_combine_185
  have b := hC1.1.2
  have out : zA σ 0 43 m = 0 ∨ s = zA σ 0 44 m → P (m + 1) τ1 := by
    intro hq
    refine ih _ _ ⟨by omega, hC1.mo (by omega), fun m' s' m0 m1 s0 s1 h q => ?_, ?_⟩ (by show (3 - (m + 1)).toNat < (3 - m).toNat; omega)
    rotate_left
    · have ec : (cR σ m).toNat = s.toNat := by
        unfold cR
        rcases hq with z | z
        · rw [if_pos z, hz1 z]
        · by_cases z0 : zA σ 0 43 m = 0
          · rw [if_pos z0, hz1 z0]
          · rw [if_neg z0, ← z]
      rw [show (m + 1).toNat = m.toNat + 1 by omega]
      show RH σ τ1 (m + 1) 0 (cSg (zA σ 0 45) (zA σ 0 46) (zA σ 0 48) (m.toNat : Int) (cAl (zA σ 0 45) (zA σ 0 46) (zA σ 0 48) (cR σ) m.toNat) (cR σ (m.toNat : Int)).toNat)
      rw [show ((m.toNat : Nat) : Int) = m by omega, ec, et]
      refine ⟨hH1.1, fun m' s' m0 m1 s0 s1 h q => hH1.2 m' s' m0 m1 s0 s1 h ?_⟩
      by_cases em : m' = m
      · rw [em] at s1 h
        rcases hq with z | z
        · exact absurd z h
        · exact Or.inr ⟨em, by omega⟩
      · exact Or.inl (by omega)
    refine hD1 m' s' m0 m1 s0 s1 h ?_
    by_cases em : m' = m
    · rw [em] at s1 h
      rcases hq with z | z
      · exact absurd z h
      · exact Or.inr ⟨em, by omega⟩
    · exact Or.inl (by omega)
  rw [b 44 (by decide), b 43 (by decide)]
  refine ⟨by omega, by omega, by omega, fun _ => out (Or.inr (by omega)), fun ne => ⟨by omega, fun z => out (Or.inl z), fun nz => ?_⟩⟩
  have hsg := hMI.2.1 s hs.1 (by omega)
  have h45 := hA.1.1 (24 * m + s) (by omega) (by omega)
  -- the piece takes its place
  have f115 : ∀ (j : Int) (υ : ZS), (0 ≤ j ∧ j < zI υ 0 73) → Cmb σ υ (24 * m + s + 1) → (zA υ 0 69 j ≤ 415 * (24 * m + s)) → Done σ υ m s → j = cIx (zA σ 0 45) t (24 * m + s) → zA υ 0 69 j = (if j = t.n then 0 else t.sz j) → zI υ 0 73 = (if j = t.n then t.n + 1 else t.n) → (∀ i : Int, 0 ≤ i → i < zI υ 0 73 → zA υ 0 68 i = (if j = t.n then zu t.nm t.n (zA σ 0 45 (24 * m + s)) else t.nm) i ∧ (i ≠ j → zA υ 0 69 i = t.sz i)) → zA υ 0 71 = zA τ1 0 71 → zA υ 0 72 = zA τ1 0 72 → wpX11_combine_115 P P14 m s (24 * m + s) j υ Q := by
    intro j υ hj hCu h69u hDu xj x69 x73 x68 x71 x72
    have bu := hCu.1.2
    have hju := hCu.2.2 j hj.1 hj.2
    have hN := hCu.2.1
    have hal := al_bd hju.1.1 hsg.2.2.2
    have e72 : zA (zsA (zsA υ 0 71 (24 * m + s) j) 0 72 (24 * m + s) ((zA υ 0 69 j + zA σ 0 46 (24 * m + s) - 1) / zA σ 0 46 (24 * m + s) * zA σ 0 46 (24 * m + s))) 0 72 (24 * m + s) = (zA υ 0 69 j + zA σ 0 46 (24 * m + s) - 1) / zA σ 0 46 (24 * m + s) * zA σ 0 46 (24 * m + s) := pu_eq (h := zA υ 0 72)
    unfold wpX11_combine_115
    rw [bu 46 (by decide), bu 48 (by decide), e72]
    obtain ⟨A, hAe⟩ : ∃ A, A = (zA υ 0 69 j + zA σ 0 46 (24 * m + s) - 1) / zA σ 0 46 (24 * m + s) * zA σ 0 46 (24 * m + s) := ⟨_, rfl⟩
    rw [← hAe] at hal ⊢
    refine ⟨by omega, by omega, by omega, by omega, ih14 _ _ ⟨by omega, ⟨((hCu.1.ta (by decide)).ta (by decide)).ta (by decide), ?_, fun i i0 i1 => ?_⟩, fun m' s' m0 m1 s0 s1 h q => ?_, ?_, fun z => absurd z nz⟩ (by show (24 - (s + 1)).toNat < (24 - s).toNat; omega)⟩
    · show 0 ≤ zI υ 0 73 ∧ zI υ 0 73 ≤ 24 * m + (s + 1)
      omega
    · have hi := hCu.2.2 i i0 i1
      show (0 ≤ zu (zA υ 0 69) j (A + zA σ 0 48 (24 * m + s)) i ∧ zu (zA υ 0 69) j (A + zA σ 0 48 (24 * m + s)) i ≤ 415 * (24 * m + (s + 1))) ∧ _
      refine ⟨?_, hi.2⟩
      by_cases e : i = j
      · rw [e, pu_eq]; omega
      · rw [pu_ne e]; omega
    · show (0 ≤ zu (zA υ 0 71) (24 * m + s) j (24 * m' + s') ∧ zu (zA υ 0 71) (24 * m + s) j (24 * m' + s') < zI υ 0 73) ∧ 0 ≤ zu (zA υ 0 72) (24 * m + s) A (24 * m' + s') ∧ zu (zA υ 0 72) (24 * m + s) A (24 * m' + s') + zA σ 0 48 (24 * m' + s') ≤ zu (zA υ 0 69) j (A + zA σ 0 48 (24 * m + s)) (zu (zA υ 0 71) (24 * m + s) j (24 * m' + s'))
      have h24 := (hA.2 m' m0 m1).1.1
      by_cases e : 24 * m' + s' = 24 * m + s
      · rw [e, pu_eq, pu_eq, pu_eq]
        exact ⟨hj, by omega, Int.le_refl _⟩
      · rw [pu_ne e, pu_ne e]
        have hd := hDu m' s' m0 m1 s0 s1 h (by omega)
        refine ⟨hd.1, hd.2.1, ?_⟩
        by_cases e2 : zA υ 0 71 (24 * m' + s') = j
        · rw [e2, pu_eq]
          rw [e2] at hd
          omega
        · rw [pu_ne e2]; exact hd.2.2
    · rw [show (s + 1).toNat = s.toNat + 1 by omega]
      show RH σ _ m (s + 1) (cPa (zA σ 0 45) (zA σ 0 46) (zA σ 0 48) (cSg (zA σ 0 45) (zA σ 0 46) (zA σ 0 48) m (cAl (zA σ 0 45) (zA σ 0 46) (zA σ 0 48) (cR σ) m.toNat) s.toNat) (24 * m + (s.toNat : Int)))
      rw [show ((s.toNat : Nat) : Int) = s by omega, et]
      have bv : A = cBe (zA σ 0 45) (zA σ 0 46) t (24 * m + s) := by
        unfold cBe upA
        rw [← xj, ← x69]; exact hAe
      refine ⟨⟨?_, fun i i0 i1 => ?_⟩, fun m' s' m0 m1 s0 s1 h q => ?_⟩
      · show zI υ 0 73 = if cIx (zA σ 0 45) t (24 * m + s) = t.n then t.n + 1 else t.n
        rw [← xj]; exact x73
      · have i1' : i < (if cIx (zA σ 0 45) t (24 * m + s) = t.n then t.n + 1 else t.n) := i1
        rw [← xj, ← x73] at i1'
        show zA υ 0 68 i = (if cIx (zA σ 0 45) t (24 * m + s) = t.n then zu t.nm t.n (zA σ 0 45 (24 * m + s)) else t.nm) i ∧ zu (zA υ 0 69) j (A + zA σ 0 48 (24 * m + s)) i = zu t.sz (cIx (zA σ 0 45) t (24 * m + s)) (cBe (zA σ 0 45) (zA σ 0 46) t (24 * m + s) + zA σ 0 48 (24 * m + s)) i
        rw [← xj, ← bv]
        refine ⟨(x68 i i0 i1').1, ?_⟩
        by_cases e : i = j
        · rw [e, pu_eq, pu_eq]
        · rw [pu_ne e, pu_ne e]; exact (x68 i i0 i1').2 e
      · show zu (zA υ 0 71) (24 * m + s) j (24 * m' + s') = zu t.wh (24 * m + s) (cIx (zA σ 0 45) t (24 * m + s)) (24 * m' + s') ∧ zu (zA υ 0 72) (24 * m + s) A (24 * m' + s') = zu t.bg (24 * m + s) (cBe (zA σ 0 45) (zA σ 0 46) t (24 * m + s)) (24 * m' + s')
        have h24 := (hA.2 m' m0 m1).1.1
        rw [← xj, ← bv, x71, x72]
        by_cases e : 24 * m' + s' = 24 * m + s
        · rw [e, pu_eq, pu_eq, pu_eq, pu_eq]; exact ⟨rfl, rfl⟩
        · rw [pu_ne e, pu_ne e, pu_ne e, pu_ne e]
          exact hH1.2 m' s' m0 m1 s0 s1 h (by omega)
  have f75 : ∀ j : Int, (0 ≤ j ∧ j ≤ zI τ1 0 73) → (∀ i : Int, 0 ≤ i → i < j → zA τ1 0 68 i ≠ zA σ 0 45 (24 * m + s)) → (j < zI τ1 0 73 → zA τ1 0 68 j = zA σ 0 45 (24 * m + s)) → wpX11_combine_75 P P14 m s (24 * m + s) j τ1 Q := by
    intro j hj hn0 hn1
    have e73 := hH1.1.1
    have xj : j = cIx (zA σ 0 45) t (24 * m + s) := by
      unfold cIx
      exact (fF_u (by omega) (fun i i0 i1 => by rw [← (hH1.1.2 i i0 (by omega)).1]; exact hn0 i i0 i1) (fun q => by rw [← (hH1.1.2 j hj.1 (by omega)).1]; exact hn1 (by omega))).symm
    have hN := hC1.2.1
    unfold wpX11_combine_75
    rw [b 45 (by decide)]
    refine ⟨by omega, by omega, fun nj => f115 j τ1 (by omega) (hC1.mo (by omega)) (by have := hC1.2.2 j hj.1 (by omega); omega) hD1 xj (by rw [if_neg (by omega)]; exact (hH1.1.2 j hj.1 (by omega)).2) (by rw [if_neg (by omega)]; exact e73) (fun i i0 i1 => by rw [if_neg (by omega)]; exact ⟨(hH1.1.2 i i0 (by omega)).1, fun _ => (hH1.1.2 i i0 (by omega)).2⟩) rfl rfl, fun ej => ⟨by omega, by omega, ?_⟩⟩
    refine f115 j _ ?_ ⟨(((hC1.1.ta (by decide)).ta (by decide)).ti (by decide)), ?_, fun i i0 i1 => ?_⟩ ?_ (fun m' s' m0 m1 s0 s1 h q => ?_) xj ?_ ?_ (fun i i0 i1 => ?_) rfl rfl
    · show 0 ≤ j ∧ j < zI τ1 0 73 + 1
      omega
    · show 0 ≤ zI τ1 0 73 + 1 ∧ zI τ1 0 73 + 1 ≤ 24 * m + s + 1
      omega
    · have i1' : i < zI τ1 0 73 + 1 := i1
      show (0 ≤ zu (zA τ1 0 69) j 0 i ∧ zu (zA τ1 0 69) j 0 i ≤ 415 * (24 * m + s + 1)) ∧ (0 ≤ zu (zA τ1 0 68) j (zA σ 0 45 (24 * m + s)) i ∧ zu (zA τ1 0 68) j (zA σ 0 45 (24 * m + s)) i ≤ 72057594037927936)
      by_cases e : i = j
      · rw [e, pu_eq, pu_eq]; omega
      · rw [pu_ne e, pu_ne e]
        have := hC1.2.2 i i0 (by omega)
        omega
    · show zu (zA τ1 0 69) j 0 j ≤ 415 * (24 * m + s)
      rw [pu_eq]; omega
    · have hd := hD1 m' s' m0 m1 s0 s1 h q
      show (0 ≤ zA τ1 0 71 (24 * m' + s') ∧ zA τ1 0 71 (24 * m' + s') < zI τ1 0 73 + 1) ∧ 0 ≤ zA τ1 0 72 (24 * m' + s') ∧ zA τ1 0 72 (24 * m' + s') + zA σ 0 48 (24 * m' + s') ≤ zu (zA τ1 0 69) j 0 (zA τ1 0 71 (24 * m' + s'))
      rw [pu_ne (by omega)]
      exact ⟨by omega, hd.2⟩
    · show zu (zA τ1 0 69) j 0 j = _
      rw [pu_eq, if_pos (by omega)]
    · show zI τ1 0 73 + 1 = _
      rw [if_pos (by omega)]; omega
    · have i1' : i < zI τ1 0 73 + 1 := i1
      show zu (zA τ1 0 68) j (zA σ 0 45 (24 * m + s)) i = _ ∧ (i ≠ j → zu (zA τ1 0 69) j 0 i = t.sz i)
      rw [if_pos (by omega), show t.n = j by omega]
      by_cases e : i = j
      · rw [e, pu_eq, pu_eq]; exact ⟨rfl, fun q => absurd rfl q⟩
      · rw [pu_ne e, pu_ne e, pu_ne e]; exact ⟨(hH1.1.2 i i0 (by omega)).1, fun _ => (hH1.1.2 i i0 (by omega)).2⟩
  unfold wpX11_combine_43
  refine lfp1_ind (fun v _ => (zI τ1 0 73 - v).toNat) (fun v τ => τ = τ1 ∧ (0 ≤ v ∧ v ≤ zI τ1 0 73) ∧ ∀ i : Int, 0 ≤ i → i < v → zA τ1 0 68 i ≠ zA σ 0 45 (24 * m + s)) ?_ ⟨rfl, by have := hC1.2.1; omega, fun i i0 i1 => absurd i1 (by omega)⟩
  intro P43 j τ2 ⟨he, hj, hno⟩ ih43
  rw [he]
  show wpbX11_combine_43 P P14 P43 m s (24 * m + s) j τ1 Q
  have hN := hC1.2.1
  unfold wpbX11_combine_43
  rw [b 45 (by decide)]
  refine ⟨by omega, by omega, fun _ => f75 j hj hno (fun q => by omega), fun nj => ?_⟩
  have h68 := (hC1.2.2 j hj.1 (by omega)).2
  exact ⟨by omega, by omega, by omega, by omega, fun ew => f75 j hj hno (fun _ => ew), fun nw => ih43 _ _ ⟨rfl, by omega, fun i i0 i1 => by
    by_cases e : i = j
    · rw [e]; exact nw
    · exact hno i i0 (by omega)⟩ (by show (zI τ1 0 73 - (j + 1)).toNat < (zI τ1 0 73 - j).toNat; omega)⟩
