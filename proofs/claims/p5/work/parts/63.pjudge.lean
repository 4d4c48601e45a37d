/-! P: behind the parse: names judged, sizes found -/
def AI (σ : ZS) : Prop := ((0 ≤ zI σ 0 17 ∧ zI σ 0 17 ≤ 240) ∧ (0 ≤ zI σ 0 23 ∧ zI σ 0 23 ≤ 480) ∧ (0 ≤ zI σ 0 31 ∧ zI σ 0 31 ≤ 968) ∧ (0 ≤ zI σ 0 34 ∧ zI σ 0 34 ≤ 80) ∧ (-1 ≤ zI σ 0 18 ∧ zI σ 0 18 ≤ 480) ∧ 7 * cntP (zA σ 0 19) (zI σ 0 23).toNat ≤ 480) ∧ (zI σ 0 18 < 0 → zI σ 0 17 ≤ 24) ∧ GA σ
theorem GG.ai {σ : ZS} (h : GG σ) : AI (zsI σ 0 2 0) := by
  obtain ⟨hT, ⟨l1, l2, l3, l4, l5, l6, l7, l8, l9, l10, l11, l12, l13, l14, l15, l16, l17, l18, l19⟩, hk, hn, hw, hA⟩ := h
  refine ⟨⟨?_, ?_, ?_, ?_, l13, ?_⟩, hw.1, hA⟩
  · show 0 ≤ zI σ 0 17 ∧ zI σ 0 17 ≤ 240; omega
  · show 0 ≤ zI σ 0 23 ∧ zI σ 0 23 ≤ 480; omega
  · show 0 ≤ zI σ 0 31 ∧ zI σ 0 31 ≤ 968; omega
  · show 0 ≤ zI σ 0 34 ∧ zI σ 0 34 ≤ 80; omega
  · show 7 * cntP (zA σ 0 19) (zI σ 0 23).toNat ≤ 480; omega
theorem fr.ai {σ τ : ZS} (h : fr [18] [] σ τ) (k : AI σ) (hw : -1 ≤ zI τ 0 18 ∧ zI τ 0 18 ≤ 480) (hm : zI τ 0 18 < 0 → zI σ 0 18 < 0) : AI τ := by
  have i : ∀ f : Nat, f ≠ 18 → zI τ 0 f = zI σ 0 f := fun f hf => h.1 f (by simpa using hf)
  have a : ∀ j : Nat, zA τ 0 j = zA σ 0 j := fun j => h.2 j (by simp)
  obtain ⟨⟨c1, c2, c3, c4, c5, c6⟩, cw, h1, h2, h3, h4, h5, h6⟩ := k
  refine ⟨⟨by rw [i 17 (by decide)]; exact c1, by rw [i 23 (by decide)]; exact c2, by rw [i 31 (by decide)]; exact c3, by rw [i 34 (by decide)]; exact c4, hw, by rw [a 19, i 23 (by decide)]; exact c6⟩, fun q => by rw [i 17 (by decide)]; exact cw (hm q), ?_, ?_, ?_, ?_, ?_, ?_⟩
  · unfold G1; simp only [a]; exact h1
  · unfold G2; simp only [a]; exact h2
  · unfold G3; simp only [a]; exact h3
  · unfold G4; simp only [a, i 34 (by decide), i 17 (by decide)]; exact h4
  · unfold G5 hasUse; simp only [a, i 23 (by decide), i 17 (by decide), i 31 (by decide)]; exact h5
  · intro q
    rw [i 31 (by decide), i 34 (by decide), i 17 (by decide)]
    simp only [a]
    exact h6 (hm q)
/-- a use that was judged -/
def Jd (σ : ZS) (u : Int) : Prop := (zA σ 0 19 u = 0 → zA σ 0 13 (zA σ 0 20 u) = 2) ∧ (zA σ 0 19 u = 1 → zA σ 0 13 (zA σ 0 20 u) ≠ 0) ∧ (zA σ 0 19 u = 4 → 1 < zA σ 0 13 (zA σ 0 20 u))
theorem s_judge {σ : ZS} {Q : ZS → Prop} (hA : AI σ) (hQ : ∀ τ : ZS, AI τ → fr [18] [] σ τ → (zI τ 0 18 < 0 → zI σ 0 18 < 0 ∧ ∀ u : Int, 0 ≤ u → u < zI τ 0 23 → Jd τ u) → Q τ) : wpX11_judge σ Q := by
  obtain ⟨⟨c1, c2, c3, c4, c5, c6⟩, cw, h1, h2, h3, h4, h5, h6⟩ := hA
  have hA0 : AI σ := ⟨⟨c1, c2, c3, c4, c5, c6⟩, cw, h1, h2, h3, h4, h5, h6⟩
  unfold wpX11_judge wpX11_judge_2
  refine lfp1_ind (fun u _ => (480 - u).toNat) (fun u τ => (0 ≤ u ∧ u ≤ zI σ 0 23) ∧ fr [18] [] σ τ ∧ (-1 ≤ zI τ 0 18 ∧ zI τ 0 18 ≤ 480) ∧ (zI τ 0 18 < 0 → zI σ 0 18 < 0 ∧ ∀ j : Int, 0 ≤ j → j < u → Jd σ j)) ?_ ⟨by omega, fr.rf, c5, fun q => ⟨q, fun j a b => by omega⟩⟩
  intro P u τ hI hP
  obtain ⟨hu, hf, hw, hj⟩ := hI
  have i23 := hf.1 23 (by decide)
  have a13 := hf.2 13 (by decide); have a14 := hf.2 14 (by decide); have a19 := hf.2 19 (by decide); have a20 := hf.2 20 (by decide); have a21 := hf.2 21 (by decide); have a22 := hf.2 22 (by decide)
  unfold wpbX11_judge_2
  rw [i23, a20, a13, a14, a22]
  refine ⟨by omega, by omega, fun q => hQ τ (hf.ai hA0 hw (fun q => (hj q).1)) hf (fun q2 => ⟨(hj q2).1, fun j j0 j1 => ?_⟩), fun q => ?_⟩
  · have := (hj q2).2 j j0 (by omega)
    unfold Jd at this ⊢
    rw [a19, a20, a13]; exact this
  · obtain ⟨u1, u2, u3, u4⟩ := h2 u hu.1 (by omega)
    obtain ⟨n1, n2, n3, n4⟩ := h1 (zA σ 0 20 u) u2.1 u2.2
    have good : Jd σ u → wpX11_judge_163 P u 1 τ Q := by
      intro jd
      unfold wpX11_judge_163 wpX11_judge_180
      refine ⟨by decide, fun _ => hP _ _ ⟨by omega, hf, hw, fun q2 => ⟨(hj q2).1, fun j j0 j1 => ?_⟩⟩ (by omega), fun q2 => absurd q2 (by decide)⟩
      by_cases e : j = u
      · rw [e]; exact jd
      · exact (hj q2).2 j j0 (by omega)
    have bad : wpX11_judge_163 P u 0 τ Q := by
      unfold wpX11_judge_163 wpX11_judge_180
      refine ⟨by decide, fun q2 => absurd rfl q2, fun _ => ⟨by omega, ?_⟩⟩
      rw [a21]
      unfold wpX11_wrongAt wpX11_wrongAt_15 wpX11_wrongAt_20
      have set : ∀ w : Int, 0 ≤ w → w ≤ 480 → P (u + 1) (zsI τ 0 18 w) := fun w w0 w1 => hP _ _ ⟨by omega, hf.ti (by decide), (by show -1 ≤ w ∧ w ≤ 480; omega), fun q2 => by have q3 : w < 0 := q2; omega⟩ (by omega)
      refine ⟨by omega, fun _ => set _ u3.1 u3.2, fun nn => ⟨by omega, fun _ => ?_, fun _ => set _ u3.1 u3.2⟩⟩
      have := set (zI τ 0 18) (by omega) hw.2
      rw [zsI_self] at this
      exact this
    have f47 : ∀ s0 : Int, 0 ≤ s0 → s0 ≤ 1 → wpX11_judge_47 P u (zA σ 0 20 u) s0 τ Q := by
      intro s0 z0 z1
      unfold wpX11_judge_47 wpX11_judge_140
      rw [a19, a13]
      refine ⟨by omega, by omega, fun k0 => ⟨fun k1 => ⟨fun k2 => ⟨fun k3 => ⟨by omega, by omega, fun _ => bad, fun g => good ⟨fun e => absurd e k0, fun e => absurd e k1, fun _ => by omega⟩⟩, fun k3 => ⟨by omega, fun _ => good ⟨fun e => by omega, fun e => by omega, fun e => by omega⟩, fun _ => ⟨by omega, by omega, fun _ => bad, fun _ => good ⟨fun e => by omega, fun e => by omega, fun e => by omega⟩⟩⟩⟩, fun k2 => ?_⟩, fun k1 => ⟨by omega, by omega, fun _ => bad, fun g => good ⟨fun e => by omega, fun _ => g, fun e => by omega⟩⟩⟩, fun k0 => ⟨by omega, by omega, fun _ => bad, fun g => good ⟨fun _ => g, fun e => by omega, fun e => by omega⟩⟩⟩
      rcases (show s0 = 0 ∨ s0 = 1 from by omega) with rfl | rfl
      · exact bad
      · exact good ⟨fun e => by omega, fun e => by omega, fun e => by omega⟩
    unfold wpX11_judge_46
    exact ⟨by omega, by omega, by omega, fun _ => f47 0 (by decide) (by decide), fun _ => ⟨by omega, by omega, fun _ => f47 0 (by decide) (by decide), fun _ => f47 1 (by decide) (by decide)⟩⟩
def psum (f : Int → Int) : Nat → Int
  | 0 => 0
  | n + 1 => psum f n + f n
theorem psum_ext {f g : Int → Int} : ∀ n : Nat, (∀ j : Int, 0 ≤ j → j < n → f j = g j) → psum f n = psum g n
  | 0, _ => rfl
  | n + 1, h => by
    show psum f n + f n = psum g n + g n
    rw [psum_ext n (fun j a b => h j a (by omega)), h n (by omega) (by omega)]
theorem psum_zu {f : Int → Int} {i d : Int} : ∀ n : Nat, 0 ≤ i → i < n → psum (zu f i (f i + d)) n = psum f n + d
  | 0, _, h => by omega
  | n + 1, h0, h1 => by
    show psum (zu f i (f i + d)) n + zu f i (f i + d) n = psum f n + f n + d
    by_cases e : i = n
    · rw [psum_ext (g := f) n (fun j a b => pu_ne (by omega)), e, pu_eq]; omega
    · rw [psum_zu n h0 (by omega), pu_ne (by omega)]; omega
theorem psum_nn {f : Int → Int} : ∀ n : Nat, (∀ j : Int, 0 ≤ j → j < n → 0 ≤ f j) → 0 ≤ psum f n
  | 0, _ => Int.le_refl 0
  | n + 1, h => by
    have := psum_nn n (fun j a b => h j a (by omega))
    have := h n (by omega) (by omega)
    show 0 ≤ psum f n + f n
    omega
theorem psum_mono {f : Int → Int} {m : Nat} : ∀ n : Nat, m ≤ n → (∀ j : Int, 0 ≤ j → j < n → 0 ≤ f j) → psum f m ≤ psum f n
  | 0, hm, _ => by rw [Nat.le_zero.mp hm]; exact Int.le_refl _
  | n + 1, hm, h => by
    rcases Nat.lt_or_ge n m with q | q
    · have : m = n + 1 := by omega
      rw [this]; exact Int.le_refl _
    · have h1 := psum_mono (m := m) n q (fun j a b => h j a (by omega))
      have h2 := h n (by omega) (by omega)
      show _ ≤ psum f n + f n
      omega
/-- bytes of a piece -/
def szf (k a n : Int) : Int := if k = 0 then 1 else if k = 4 then (if n = 0 then 2 else 3) else if k = 6 then 3 else if k = 7 then 0 else if k = 8 then a else 2
def szp (σ : ZS) (p : Int) : Int := szf (zA σ 0 24 p) (zA σ 0 25 p) (zA σ 0 30 p)
theorem szp_bd {σ : ZS} (h : G3 σ) {p : Int} (h0 : 0 ≤ p) (h1 : p < 1200) : 0 ≤ szp σ p ∧ szp σ p ≤ 64 := by
  obtain ⟨q1, q2, q3, q4, q5, q6, q7, q8⟩ := h p h0 h1
  unfold szp szf
  split
  · decide
  · split
    · split <;> decide
    · split
      · decide
      · split
        · decide
        · split
          · rename_i e; exact q3 e
          · decide
theorem s_sizeOf {σ : ZS} {p : Int} {Q : Int → ZS → Prop} (h : G3 σ) (h0 : 0 ≤ p ∧ p < 1200) (hQ : Q (szp σ p) σ) : wpX11_sizeOf p σ Q := by
  obtain ⟨q1, q2, q3, q4, q5, q6, q7, q8⟩ := h p h0.1 h0.2
  unfold szp szf at hQ
  unfold wpX11_sizeOf wpX11_sizeOf_86 wpX11_sizeOf_72
  refine ⟨h0, by omega, fun e => ?_, fun n0 => ⟨fun e => ?_, fun n1 => ⟨fun e => ?_, fun n2 => ⟨fun e => ?_, fun n3 => ⟨fun e => ⟨by omega, fun z => ?_, fun z => ?_⟩, fun n4 => ⟨fun e => ?_, fun n5 => ⟨fun e => ?_, fun n6 => ⟨fun e => ?_, fun n7 => ⟨fun e => ?_, fun n8 => ?_⟩⟩⟩⟩⟩⟩⟩⟩⟩
  · rw [if_pos e] at hQ; exact hQ
  · rw [e] at hQ; exact hQ
  · rw [e] at hQ; exact hQ
  · rw [e] at hQ; exact hQ
  · rw [e, z] at hQ; exact hQ
  · rw [if_neg n0, if_pos e, if_neg z] at hQ; exact hQ
  · rw [e] at hQ; exact hQ
  · rw [e] at hQ; exact hQ
  · rw [e] at hQ; exact hQ
  · rw [if_neg n0, if_neg n4, if_neg n6, if_neg n7, if_pos e] at hQ; exact hQ
  · rw [if_neg n0, if_neg n4, if_neg n6, if_neg n7, if_neg n8] at hQ; exact hQ
