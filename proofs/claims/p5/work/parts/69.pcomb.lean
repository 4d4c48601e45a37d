/-! P: the reference combines -/
theorem al_bd {a b : Int} (ha : 0 ≤ a) (hb : 1 ≤ b ∧ b ≤ 16) : a ≤ (a + b - 1) / b * b ∧ (a + b - 1) / b * b ≤ a + 15 := by
  have h1 := Int.mul_ediv_add_emod (a + b - 1) b
  have h2 := Int.emod_nonneg (a + b - 1) (show b ≠ 0 by omega)
  have h3 := Int.emod_lt_of_pos (a + b - 1) (show 0 < b by omega)
  rw [Int.mul_comm] at h1
  omega
abbrev CA : List Nat := [67, 68, 69, 70, 71, 72]
def Done (σ τ : ZS) (v1 v2 : Int) : Prop := ∀ m s : Int, 0 ≤ m → m ≤ 2 → 0 ≤ s → s < zA σ 0 44 m → zA σ 0 43 m ≠ 0 → (m < v1 ∨ (m = v1 ∧ s < v2)) → (0 ≤ zA τ 0 71 (24 * m + s) ∧ zA τ 0 71 (24 * m + s) < zI τ 0 73) ∧ 0 ≤ zA τ 0 72 (24 * m + s) ∧ zA τ 0 72 (24 * m + s) + zA σ 0 48 (24 * m + s) ≤ zA τ 0 69 (zA τ 0 71 (24 * m + s))
def Cmb (σ τ : ZS) (N : Int) : Prop := fr [73] CA σ τ ∧ (0 ≤ zI τ 0 73 ∧ zI τ 0 73 ≤ N) ∧ (∀ j : Int, 0 ≤ j → j < zI τ 0 73 → (0 ≤ zA τ 0 69 j ∧ zA τ 0 69 j ≤ 415 * N) ∧ (0 ≤ zA τ 0 68 j ∧ zA τ 0 68 j ≤ 72057594037927936))
theorem Cmb.mo {σ τ : ZS} {N M : Int} (h : Cmb σ τ N) (hN : N ≤ M) : Cmb σ τ M := ⟨h.1, by have := h.2.1; omega, fun j a b => by have := h.2.2 j a b; omega⟩
/-- what combining leaves -/
def CB (τ : ZS) : Prop := (0 ≤ zI τ 0 73 ∧ zI τ 0 73 ≤ 72) ∧ (∀ m s : Int, 0 ≤ m → m ≤ 2 → 0 ≤ s → s < zA τ 0 44 m → zA τ 0 43 m ≠ 0 → (0 ≤ zA τ 0 71 (24 * m + s) ∧ zA τ 0 71 (24 * m + s) < zI τ 0 73) ∧ 0 ≤ zA τ 0 72 (24 * m + s) ∧ zA τ 0 72 (24 * m + s) + zA τ 0 48 (24 * m + s) ≤ zA τ 0 69 (zA τ 0 71 (24 * m + s))) ∧ (∀ j : Int, 0 ≤ j → j < zI τ 0 73 → (0 ≤ zA τ 0 69 j ∧ zA τ 0 69 j ≤ 30000) ∧ 0 ≤ zA τ 0 70 j ∧ zA τ 0 70 j + zA τ 0 69 j ≤ zA τ 0 67 0) ∧ (0 ≤ zA τ 0 67 0 ∧ zA τ 0 67 0 ≤ 3000000)
theorem s_combine {σ : ZS} {Q : ZS → Prop} (hA : MA σ) (hQ : ∀ τ : ZS, fr [73] CA σ τ → CB τ → Q τ) : wpX11_combine σ Q := by
  have f195 : ∀ τ : ZS, Cmb σ τ 72 → Done σ τ 3 0 → wpX11_combine_195 0 0 τ Q := by
    intro τ0 h0 hD0
    unfold wpX11_combine_195
    refine lfp2_ind (fun _ v _ => (zI τ0 0 73 - v).toNat) (fun e v τ => fr [] [70] τ0 τ ∧ (0 ≤ v ∧ v ≤ zI τ0 0 73) ∧ (0 ≤ e ∧ e ≤ 30000 * v) ∧ (∀ j : Int, 0 ≤ j → j < v → 0 ≤ zA τ 0 70 j ∧ zA τ 0 70 j + zA τ0 0 69 j ≤ e)) ?_ ⟨fr.rf, by have := h0.2.1; omega, by omega, fun j a b => absurd b (by omega)⟩
    intro P e v τ ⟨hf, hv, he, hj⟩ ih
    show wpbX11_combine_195 P e v τ Q
    have i73 : zI τ 0 73 = zI τ0 0 73 := hf.1 73 (by simp)
    have a69 : zA τ 0 69 = zA τ0 0 69 := hf.2 69 (by decide)
    have h73 := h0.2.1
    unfold wpbX11_combine_195
    rw [i73, a69]
    refine ⟨by omega, by omega, fun q => ?_, fun nq => ?_⟩
    · have hev : v = zI τ0 0 73 := by omega
      have hff : fr [73] CA σ (zsA τ 0 67 0 e) := (h0.1.tr (hf.up (by decide) (by decide))).ta (by decide)
      refine hQ _ hff ⟨?_, fun m s m0 m1 s0 s1 h43 => ?_, fun j j0 j1 => ?_, ?_⟩
      · show 0 ≤ zI τ 0 73 ∧ zI τ 0 73 ≤ 72
        rw [i73]; exact h73
      · rw [hff.2 44 (by decide)] at s1
        rw [hff.2 43 (by decide)] at h43
        have hd := hD0 m s m0 m1 s0 s1 h43 (Or.inl (by omega))
        show (0 ≤ zA τ 0 71 (24 * m + s) ∧ zA τ 0 71 (24 * m + s) < zI τ 0 73) ∧ 0 ≤ zA τ 0 72 (24 * m + s) ∧ zA τ 0 72 (24 * m + s) + zA τ 0 48 (24 * m + s) ≤ zA τ 0 69 (zA τ 0 71 (24 * m + s))
        rw [i73, a69, hf.2 71 (by decide), hf.2 72 (by decide), hf.2 48 (by decide), h0.1.2 48 (by decide)]
        exact hd
      · have j1' : j < zI τ0 0 73 := by
          have : j < zI τ 0 73 := j1
          omega
        show (0 ≤ zA τ 0 69 j ∧ zA τ 0 69 j ≤ 30000) ∧ 0 ≤ zA τ 0 70 j ∧ zA τ 0 70 j + zA τ 0 69 j ≤ zu (zA τ 0 67) 0 e 0
        rw [pu_eq, a69]
        have h1 := (h0.2.2 j j0 j1').1
        have h2 := hj j j0 (by omega)
        omega
      · show 0 ≤ zu (zA τ 0 67) 0 e 0 ∧ zu (zA τ 0 67) 0 e 0 ≤ 3000000
        rw [pu_eq]; omega
    · have h69 := (h0.2.2 v hv.1 (by omega)).1
      have ez : zA (zsA τ 0 70 v ((e + 15) / 16 * 16)) 0 70 v = (e + 15) / 16 * 16 := pu_eq (h := zA τ 0 70)
      rw [ez]
      refine ⟨by omega, by omega, ih _ _ _ ⟨hf.ta (by decide), by omega, by omega, fun j j0 j1 => ?_⟩ (by show (zI τ0 0 73 - (v + 1)).toNat < (zI τ0 0 73 - v).toNat; omega)⟩
      show 0 ≤ zu (zA τ 0 70) v ((e + 15) / 16 * 16) j ∧ zu (zA τ 0 70) v ((e + 15) / 16 * 16) j + zA τ0 0 69 j ≤ _
      by_cases ej : j = v
      · rw [ej, pu_eq]; omega
      · rw [pu_ne ej]
        have := hj j j0 (by omega)
        omega
  unfold wpX11_combine wpX11_combine_7
  refine lfp1_ind (fun v _ => (3 - v).toNat) (fun v τ => (0 ≤ v ∧ v ≤ 3) ∧ Cmb σ τ (24 * v) ∧ Done σ τ v 0) ?_ ⟨by omega, ⟨fr.i (by decide), by show 0 ≤ (0 : Int) ∧ (0 : Int) ≤ 24 * 0; decide, fun j a b => absurd b (by show ¬ j < 0; omega)⟩, fun m s m0 m1 s0 s1 h43 q => by omega⟩
  intro P m τ ⟨hm, hC, hD⟩ ih
  show wpbX11_combine_7 P m τ Q
  unfold wpbX11_combine_7
  refine ⟨by omega, fun q => ?_, fun nq => ?_⟩
  · have e3 : m = 3 := by omega
    rw [e3] at hC hD
    exact f195 τ hC hD
  have hMI := hA.2 m hm.1 (by omega)
  have hM := hMI.1.1
  have h43 := hA.1.2.2.2.2 m hm.1 (by omega)
  unfold wpX11_combine_14
  refine lfp1_ind (fun v _ => (24 - v).toNat) (fun v τ => (0 ≤ v ∧ v ≤ zA σ 0 44 m) ∧ Cmb σ τ (24 * m + v) ∧ Done σ τ m v) ?_ ⟨by omega, by rw [Int.add_zero]; exact hC, hD⟩
  intro P14 s τ1 ⟨hs, hC1, hD1⟩ ih14
  show wpbX11_combine_14 P P14 m s τ1 Q
  unfold wpbX11_combine_14 wpX11_combine_185
  have b := hC1.1.2
  have out : zA σ 0 43 m = 0 ∨ s = zA σ 0 44 m → P (m + 1) τ1 := by
    intro hq
    refine ih _ _ ⟨by omega, hC1.mo (by omega), fun m' s' m0 m1 s0 s1 h q => ?_⟩ (by show (3 - (m + 1)).toNat < (3 - m).toNat; omega)
    refine hD1 m' s' m0 m1 s0 s1 h ?_
    by_cases em : m' = m
    · rw [em] at s1 h
      rcases hq with z | z
      · exact absurd z h
      · exact Or.inr ⟨em, by omega⟩
    · exact Or.inl (by omega)
  rw [b 44 (by decide), b 43 (by decide)]
  refine ⟨by omega, by omega, by omega, fun _ => out (Or.inr (by omega)), fun ne => ⟨by omega, fun z => out (Or.inl z), fun nz => ?_⟩⟩
  have hsg := hMI.2.1 s hs.1 (by omega)
  have h45 := hA.1.1 (24 * m + s) (by omega) (by omega)
  -- the piece takes its place
  have f115 : ∀ (j : Int) (υ : ZS), (0 ≤ j ∧ j < zI υ 0 73) → Cmb σ υ (24 * m + s + 1) → (zA υ 0 69 j ≤ 415 * (24 * m + s)) → Done σ υ m s → wpX11_combine_115 P P14 m s (24 * m + s) j υ Q := by
    intro j υ hj hCu h69u hDu
    have bu := hCu.1.2
    have hju := hCu.2.2 j hj.1 hj.2
    have hN := hCu.2.1
    have hal := al_bd hju.1.1 hsg.2.2.2
    have e72 : zA (zsA (zsA υ 0 71 (24 * m + s) j) 0 72 (24 * m + s) ((zA υ 0 69 j + zA σ 0 46 (24 * m + s) - 1) / zA σ 0 46 (24 * m + s) * zA σ 0 46 (24 * m + s))) 0 72 (24 * m + s) = (zA υ 0 69 j + zA σ 0 46 (24 * m + s) - 1) / zA σ 0 46 (24 * m + s) * zA σ 0 46 (24 * m + s) := pu_eq (h := zA υ 0 72)
    unfold wpX11_combine_115
    rw [bu 46 (by decide), bu 48 (by decide), e72]
    obtain ⟨A, hAe⟩ : ∃ A, A = (zA υ 0 69 j + zA σ 0 46 (24 * m + s) - 1) / zA σ 0 46 (24 * m + s) * zA σ 0 46 (24 * m + s) := ⟨_, rfl⟩
    rw [← hAe] at hal ⊢
    refine ⟨by omega, by omega, by omega, by omega, ih14 _ _ ⟨by omega, ⟨((hCu.1.ta (by decide)).ta (by decide)).ta (by decide), ?_, fun i i0 i1 => ?_⟩, fun m' s' m0 m1 s0 s1 h q => ?_⟩ (by show (24 - (s + 1)).toNat < (24 - s).toNat; omega)⟩
    · show 0 ≤ zI υ 0 73 ∧ zI υ 0 73 ≤ 24 * m + (s + 1)
      omega
    · have hi := hCu.2.2 i i0 i1
      show (0 ≤ zu (zA υ 0 69) j (A + zA σ 0 48 (24 * m + s)) i ∧ zu (zA υ 0 69) j (A + zA σ 0 48 (24 * m + s)) i ≤ 415 * (24 * m + (s + 1))) ∧ _
      refine ⟨?_, hi.2⟩
      by_cases e : i = j
      · rw [e, pu_eq]; omega
      · rw [pu_ne e]; omega
    · show (0 ≤ zu (zA υ 0 71) (24 * m + s) j (24 * m' + s') ∧ zu (zA υ 0 71) (24 * m + s) j (24 * m' + s') < zI υ 0 73) ∧ 0 ≤ zu (zA υ 0 72) (24 * m + s) A (24 * m' + s') ∧ zu (zA υ 0 72) (24 * m + s) A (24 * m' + s') + zA σ 0 48 (24 * m' + s') ≤ zu (zA υ 0 69) j (A + zA σ 0 48 (24 * m + s)) (zu (zA υ 0 71) (24 * m + s) j (24 * m' + s'))
      have h24 := (hA.2 m' m0 m1).1.1
      by_cases e : 24 * m' + s' = 24 * m + s
      · rw [e, pu_eq, pu_eq, pu_eq]
        exact ⟨hj, by omega, Int.le_refl _⟩
      · rw [pu_ne e, pu_ne e]
        have hd := hDu m' s' m0 m1 s0 s1 h (by omega)
        refine ⟨hd.1, hd.2.1, ?_⟩
        by_cases e2 : zA υ 0 71 (24 * m' + s') = j
        · rw [e2, pu_eq]
          rw [e2] at hd
          omega
        · rw [pu_ne e2]; exact hd.2.2
  have f75 : ∀ j : Int, (0 ≤ j ∧ j ≤ zI τ1 0 73) → wpX11_combine_75 P P14 m s (24 * m + s) j τ1 Q := by
    intro j hj
    have hN := hC1.2.1
    unfold wpX11_combine_75
    rw [b 45 (by decide)]
    refine ⟨by omega, by omega, fun nj => f115 j τ1 (by omega) (hC1.mo (by omega)) (by have := hC1.2.2 j hj.1 (by omega); omega) hD1, fun ej => ⟨by omega, by omega, ?_⟩⟩
    refine f115 j _ ?_ ⟨(((hC1.1.ta (by decide)).ta (by decide)).ti (by decide)), ?_, fun i i0 i1 => ?_⟩ ?_ (fun m' s' m0 m1 s0 s1 h q => ?_)
    · show 0 ≤ j ∧ j < zI τ1 0 73 + 1
      omega
    · show 0 ≤ zI τ1 0 73 + 1 ∧ zI τ1 0 73 + 1 ≤ 24 * m + s + 1
      omega
    · have i1' : i < zI τ1 0 73 + 1 := i1
      show (0 ≤ zu (zA τ1 0 69) j 0 i ∧ zu (zA τ1 0 69) j 0 i ≤ 415 * (24 * m + s + 1)) ∧ (0 ≤ zu (zA τ1 0 68) j (zA σ 0 45 (24 * m + s)) i ∧ zu (zA τ1 0 68) j (zA σ 0 45 (24 * m + s)) i ≤ 72057594037927936)
      by_cases e : i = j
      · rw [e, pu_eq, pu_eq]; omega
      · rw [pu_ne e, pu_ne e]
        have := hC1.2.2 i i0 (by omega)
        omega
    · show zu (zA τ1 0 69) j 0 j ≤ 415 * (24 * m + s)
      rw [pu_eq]; omega
    · have hd := hD1 m' s' m0 m1 s0 s1 h q
      show (0 ≤ zA τ1 0 71 (24 * m' + s') ∧ zA τ1 0 71 (24 * m' + s') < zI τ1 0 73 + 1) ∧ 0 ≤ zA τ1 0 72 (24 * m' + s') ∧ zA τ1 0 72 (24 * m' + s') + zA σ 0 48 (24 * m' + s') ≤ zu (zA τ1 0 69) j 0 (zA τ1 0 71 (24 * m' + s'))
      rw [pu_ne (by omega)]
      exact ⟨by omega, hd.2⟩
  unfold wpX11_combine_43
  refine lfp1_ind (fun v _ => (zI τ1 0 73 - v).toNat) (fun v τ => τ = τ1 ∧ (0 ≤ v ∧ v ≤ zI τ1 0 73)) ?_ ⟨rfl, by have := hC1.2.1; omega⟩
  intro P43 j τ2 ⟨he, hj⟩ ih43
  rw [he]
  show wpbX11_combine_43 P P14 P43 m s (24 * m + s) j τ1 Q
  have hN := hC1.2.1
  unfold wpbX11_combine_43
  rw [b 45 (by decide)]
  refine ⟨by omega, by omega, fun _ => f75 j hj, fun nj => ?_⟩
  have h68 := (hC1.2.2 j hj.1 (by omega)).2
  exact ⟨by omega, by omega, by omega, by omega, fun _ => f75 j hj, fun _ => ih43 _ _ ⟨rfl, by omega⟩ (by show (zI τ1 0 73 - (j + 1)).toNat < (zI τ1 0 73 - j).toNat; omega)⟩
