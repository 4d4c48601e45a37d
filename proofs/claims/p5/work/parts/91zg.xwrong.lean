/-! X: whether a name is wrong, on both sides -/
theorem uCc.k {σ τ : ZS} {i : Int} (e11 : ob τ 11 = ob σ 11) (e13 : ob τ 13 = ob σ 13) (h : uCc σ i) : uCc τ i := by
  unfold uCc at h ⊢
  rw [ob_A e11 1, ob_A e11 2, ob_A e13 0, ob_A e13 2, ob_A e13 5]; exact h
theorem x_firstWrong {σ : ZS} {Q : Int → ZS → Prop} (h1 : NR σ) (h2 : NS σ) (h3 : NF σ) (h4 : DJ σ) (h7 : LRg σ) (h24 : zI σ 11 5 ≤ 24) (hm : zI σ 11 6 = -1) (hQ : ∀ (x : Int) (τ : ZS), LY τ → DS τ (zI τ 13 7) → x = zI τ 15 5 → (x < 0 → UR τ (zI τ 13 7)) → kp [11, 13, 15] σ τ → zI τ 11 5 = zI σ 11 5 → zI τ 13 7 = zI σ 13 7 → (∀ f : Nat, f ≠ 5 → zA τ 13 f = zA σ 13 f) → (x < 0 → DXd τ (yS τ) (yS τ).cur ∧ DG τ (zI τ 13 7)) → (x < 0 ↔ yOK (yS τ)) → zA τ 11 0 = zA σ 11 0 → Q x τ) : wpX2_firstWrong σ Q := by
  unfold wpX2_firstWrong
  refine x_declareAll h1 h2 h3 (h4.k rfl (ob_i (by decide))) ?_ rfl h7 h24 hm (fun τ0 ly0 ds0 k0 f5 f6 f7 fa dx0 dg0 f0 => ?_)
  · have := h2.2.1
    show -1 ≤ zI σ 11 6 ∧ zI σ 11 6 ≤ 480
    omega
  have f5' : zI τ0 11 5 = zI σ 11 5 := f5
  have f7' : zI τ0 13 7 = zI σ 13 7 := f7
  have fa' : ∀ f : Nat, f ≠ 5 → zA τ0 13 f = zA σ 13 f := fa
  unfold wpX2_firstWrong_17
  refine lfp1_ind (fun v _ => (248 - v).toNat) (fun v τ => LY τ ∧ DS τ (zI τ 13 7) ∧ (zI τ 15 5 < 0 → UR τ v) ∧ kp [15] τ0 τ ∧ (0 ≤ v ∧ v ≤ zI τ 13 7) ∧ zI τ 15 4 = zI τ0 15 4 ∧ zA τ 15 2 = zA τ0 15 2 ∧ (zI τ 15 5 < 0 ↔ zI τ0 15 5 < 0 ∧ ∀ j : Int, 0 ≤ j → j < v → uCc τ0 j)) (fun K v τ hI ih => ?_) ⟨ly0, ds0, fun _ j j0 j1 => absurd j0 (by omega), kp.rf, ⟨by decide, ly0.sz.1⟩, rfl, rfl, ⟨fun q => ⟨q, fun j j0 j1 => absurd j0 (by omega)⟩, fun q => q.1⟩⟩
  obtain ⟨ly, ds, ur, k, ⟨v0, v1⟩, e4, e2, iff⟩ := hI
  have hz := ly.sz
  have e11 : ob τ 11 = ob τ0 11 := k 11 (by decide)
  have e13 : ob τ 13 = ob τ0 13 := k 13 (by decide)
  unfold wpbX2_firstWrong_17 wpX2_firstWrong_49
  refine ⟨by omega, by omega, fun q => ?_, fun lt => x_isUseRight ly ds ⟨v0, by omega⟩ (fun u => ⟨by decide, fun _ => ih _ _ ⟨ly, ds, fun w j j0 j1 => ?_, k, ⟨by omega, by omega⟩, e4, e2, ?_⟩ (by omega), fun q => absurd q (by decide)⟩) (fun hn nu => ⟨by decide, fun q => absurd rfl q, fun _ => ⟨by omega, ?_⟩⟩)⟩
  · have ev : zI τ 13 7 = v := by omega
    have ey : yS τ = yS τ0 := yS.k e13
    have ok := yF_ok (a := zA τ0 13 0) (b := zA τ0 13 1) (c := zA τ0 13 2) (yS τ0) (zI τ0 13 7).toNat (fun j hj => (ly0.it (i := (j : Int)) (by omega) (by omega)).1)
    have hx : zI τ 15 5 < 0 ↔ yOK (yS τ) := by
      rw [ey, iff]
      unfold yOK
      have ez : zI τ0 13 7 = v := by rw [← ob_I e13 7]; exact ev
      constructor
      · rintro ⟨q1, q2⟩
        refine ⟨dx0.2.2.2.2.mp q1, ok.2.mpr (fun j hj => ?_)⟩
        have := (uCc_iff ly0 dx0.1 dg0 (i := (j : Int)) ⟨by omega, by omega⟩).mp (q2 j (by omega) (by omega))
        unfold yK at this
        rw [show ((j : Int) + 1).toNat = j + 1 by omega] at this
        exact this
      · rintro ⟨q1, q2⟩
        refine ⟨dx0.2.2.2.2.mpr q1, fun j j0 j1 => (uCc_iff ly0 dx0.1 dg0 ⟨j0, by omega⟩).mpr ?_⟩
        have := ok.2.mp q2 j.toNat (by omega)
        rw [show ((j.toNat : Nat) : Int) = j by omega] at this
        unfold yK
        rw [show (j + 1).toNat = j.toNat + 1 by omega]
        exact this
    refine hQ _ τ ly ds rfl (fun w => by rw [ev]; exact ur w) (((kp.i (by decide)).tr k0).tr (k.up (by decide))) ((ob_I e11 5).trans f5') ((ob_I e13 7).trans f7') (fun f hf => (ob_A e13 f).trans (fa' f hf)) (fun w => ⟨?_, ?_⟩) hx ((ob_A e11 0).trans f0)
    · rw [ey]
      refine ⟨?_, e4.trans dx0.2.1, by rw [e2]; exact dx0.2.2.1, rfl, ?_⟩
      · rw [ob_I e11 5, ob_A e11 1, ob_A e11 2, ob_A e11 3]; exact dx0.1
      · have w0 := (iff.mp w).1
        exact ⟨fun _ => dx0.2.2.2.2.mp w0, fun _ => w⟩
    · intro j j0 j1
      rw [ob_I e13 7] at j1
      rw [ob_A e13 5, yK.k (ob_A e13 0) (ob_A e13 1) (ob_A e13 2)]
      exact dg0 j j0 j1
  · by_cases e : j = v
    · rw [e]; exact u.1
    · exact ur w j j0 (by omega)
  · rw [iff]
    refine ⟨fun q => ⟨q.1, fun j j0 j1 => ?_⟩, fun q => ⟨q.1, fun j j0 j1 => q.2 j j0 (by omega)⟩⟩
    by_cases e : j = v
    · rw [e]; exact u.k e11.symm e13.symm
    · exact q.2 j j0 (by omega)
  · obtain ⟨i1, i2, i3, i4, i5, i6, i7, i8, i9, i10⟩ := ly.it v0 (show v < zI τ 13 7 by omega)
    have hp := i7 hn
    have no : ¬ (zI τ0 15 5 < 0 ∧ ∀ j : Int, 0 ≤ j → j < v + 1 → uCc τ0 j) := fun q => nu ((q.2 v v0 (by omega)).k e11 e13)
    refine c_blame ly (by omega) (fun w => ih _ _ ⟨ly, ds, fun q => absurd q (by omega), k, ⟨by omega, by omega⟩, e4, e2, ⟨fun q => absurd q (by omega), fun q => absurd q no⟩⟩ (by omega)) (fun w w0 w1 => ih _ _ ⟨ly.bl w0 w1, ds, fun q => ?_, k.ti (by decide), ?_, e4, e2, ⟨fun q => ?_, fun q => absurd q no⟩⟩ (by omega))
    · have q' : w < 0 := q
      omega
    · show 0 ≤ v + 1 ∧ v + 1 ≤ zI τ 13 7
      omega
    · have q' : w < 0 := q
      omega
/-- a use that is right, as the reference sees it -/
def Ju (σ : ZS) (u : Int) : Prop := (zA σ 0 19 u = 0 → zA σ 0 13 (zA σ 0 20 u) = 2) ∧ (zA σ 0 19 u = 1 → zA σ 0 13 (zA σ 0 20 u) ≠ 0) ∧ (zA σ 0 19 u = 2 → zA σ 0 13 (zA σ 0 20 u) = 2 ∧ zA σ 0 14 (zA σ 0 20 u) = zA σ 0 22 u) ∧ (zA σ 0 19 u = 3 → (zA σ 0 13 (zA σ 0 20 u) = 2 ∧ zA σ 0 14 (zA σ 0 20 u) = zA σ 0 22 u) ∨ zA σ 0 13 (zA σ 0 20 u) = 3) ∧ (zA σ 0 19 u = 4 → 1 < zA σ 0 13 (zA σ 0 20 u))
theorem x_judge {σ : ZS} {Q : ZS → Prop} (hA : AI σ) (hQ : ∀ τ : ZS, AI τ → fr [18] [] σ τ → (zI τ 0 18 < 0 ↔ zI σ 0 18 < 0 ∧ ∀ u : Int, 0 ≤ u → u < zI σ 0 23 → Ju σ u) → Q τ) : wpX11_judge σ Q := by
  obtain ⟨⟨c1, c2, c3, c4, c5, c6⟩, cw, h1, h2, h3, h4, h5, h6⟩ := hA
  have hA0 : AI σ := ⟨⟨c1, c2, c3, c4, c5, c6⟩, cw, h1, h2, h3, h4, h5, h6⟩
  unfold wpX11_judge wpX11_judge_2
  refine lfp1_ind (fun u _ => (480 - u).toNat) (fun u τ => (0 ≤ u ∧ u ≤ zI σ 0 23) ∧ fr [18] [] σ τ ∧ (-1 ≤ zI τ 0 18 ∧ zI τ 0 18 ≤ 480) ∧ (zI τ 0 18 < 0 ↔ zI σ 0 18 < 0 ∧ ∀ j : Int, 0 ≤ j → j < u → Ju σ j)) ?_ ⟨by omega, fr.rf, c5, ⟨fun q => ⟨q, fun j a b => by omega⟩, fun q => q.1⟩⟩
  intro P u τ hI hP
  obtain ⟨hu, hf, hw, hj⟩ := hI
  have i23 := hf.1 23 (by decide)
  have a13 := hf.2 13 (by decide); have a14 := hf.2 14 (by decide); have a19 := hf.2 19 (by decide); have a20 := hf.2 20 (by decide); have a21 := hf.2 21 (by decide); have a22 := hf.2 22 (by decide)
  unfold wpbX11_judge_2
  rw [i23, a20, a13, a14, a22]
  refine ⟨by omega, by omega, fun q => hQ τ (hf.ai hA0 hw (fun q => (hj.mp q).1)) hf (hj.trans ⟨fun q2 => ⟨q2.1, fun j j0 j1 => q2.2 j j0 (by omega)⟩, fun q2 => ⟨q2.1, fun j j0 j1 => q2.2 j j0 (by omega)⟩⟩), fun q => ?_⟩
  · obtain ⟨u1, u2, u3, u4⟩ := h2 u hu.1 (by omega)
    obtain ⟨n1, n2, n3, n4⟩ := h1 (zA σ 0 20 u) u2.1 u2.2
    have good : Ju σ u → wpX11_judge_163 P u 1 τ Q := by
      intro jd
      unfold wpX11_judge_163 wpX11_judge_180
      refine ⟨by decide, fun _ => hP _ _ ⟨by omega, hf, hw, hj.trans ⟨fun q2 => ⟨q2.1, fun j j0 j1 => ?_⟩, fun q2 => ⟨q2.1, fun j j0 j1 => q2.2 j j0 (by omega)⟩⟩⟩ (by omega), fun q2 => absurd q2 (by decide)⟩
      by_cases e : j = u
      · rw [e]; exact jd
      · exact q2.2 j j0 (by omega)
    have bad : ¬ Ju σ u → wpX11_judge_163 P u 0 τ Q := by
      intro nj
      have no : ¬ (zI σ 0 18 < 0 ∧ ∀ j : Int, 0 ≤ j → j < u + 1 → Ju σ j) := fun q => nj (q.2 u hu.1 (by omega))
      unfold wpX11_judge_163 wpX11_judge_180
      refine ⟨by decide, fun q2 => absurd rfl q2, fun _ => ⟨by omega, ?_⟩⟩
      rw [a21]
      unfold wpX11_wrongAt wpX11_wrongAt_15 wpX11_wrongAt_20
      have set : ∀ w : Int, 0 ≤ w → w ≤ 480 → P (u + 1) (zsI τ 0 18 w) := fun w w0 w1 => hP _ _ ⟨by omega, hf.ti (by decide), (by show -1 ≤ w ∧ w ≤ 480; omega), ⟨fun q2 => by have q3 : w < 0 := q2; omega, fun q2 => absurd q2 no⟩⟩ (by omega)
      refine ⟨by omega, fun _ => set _ u3.1 u3.2, fun nn => ⟨by omega, fun _ => ?_, fun _ => set _ u3.1 u3.2⟩⟩
      have := set (zI τ 0 18) (by omega) hw.2
      rw [zsI_self] at this
      exact this
    have f47 : ∀ s0 : Int, ((s0 = 1 ∧ zA σ 0 13 (zA σ 0 20 u) = 2 ∧ zA σ 0 14 (zA σ 0 20 u) = zA σ 0 22 u) ∨ (s0 = 0 ∧ ¬ (zA σ 0 13 (zA σ 0 20 u) = 2 ∧ zA σ 0 14 (zA σ 0 20 u) = zA σ 0 22 u))) → wpX11_judge_47 P u (zA σ 0 20 u) s0 τ Q := by
      intro s0 hs
      unfold Ju at good bad
      unfold wpX11_judge_47 wpX11_judge_140
      rw [a19, a13]
      refine ⟨by omega, by omega, fun k0 => ⟨fun k1 => ⟨fun k2 => ⟨fun k3 => ⟨by omega, by omega, fun _ => bad (by omega), fun g => good (by omega)⟩, fun k3 => ⟨by omega, fun _ => good (by omega), fun _ => ⟨by omega, by omega, fun _ => bad (by omega), fun _ => good (by omega)⟩⟩⟩, fun k2 => ?_⟩, fun k1 => ⟨by omega, by omega, fun _ => bad (by omega), fun g => good (by omega)⟩⟩, fun k0 => ⟨by omega, by omega, fun _ => bad (by omega), fun g => good (by omega)⟩⟩
      rcases hs with ⟨e, e'⟩ | ⟨e, e'⟩
      · rw [e]; exact good (by omega)
      · rw [e]; exact bad (by omega)
    unfold wpX11_judge_46
    exact ⟨by omega, by omega, by omega, fun y => f47 0 (Or.inr ⟨rfl, fun z => y z.1⟩), fun y => ⟨by omega, by omega, fun z => f47 0 (Or.inr ⟨rfl, fun w => z w.2⟩), fun z => f47 1 (Or.inl ⟨rfl, y, z⟩)⟩⟩
/-- the reference's judgement is the walk's -/
theorem Ju_ok {ρ : ZS} {m : Int} {D : YD} (hN : YN ρ m D) (hU : YU ρ (pU D [])) (h5 : ∀ u : Int, 0 ≤ u → u < zI ρ 0 23 → 0 ≤ zA ρ 0 20 u ∧ zA ρ 0 20 u < m) : (zI ρ 0 18 < 0 ∧ ∀ u : Int, 0 ≤ u → u < zI ρ 0 23 → Ju ρ u) ↔ yOK D := by
  have hU' : YU ρ D.u := hU
  obtain ⟨e23, eu⟩ := hU'
  have key : ∀ u : Int, 0 ≤ u → u < zI ρ 0 23 → (Ju ρ u ↔ uOK D (D.u.uk u) (D.u.un u) (D.u.us u)) := by
    intro u u0 u1
    obtain ⟨w1, w2, w3⟩ := eu u u0 (by omega)
    have hb := h5 u u0 u1
    obtain ⟨z1, z2, -⟩ := hN.1 (zA ρ 0 20 u) hb.1 hb.2
    unfold Ju uOK
    rw [← w1, ← w2, ← w3]
    omega
  unfold yOK
  rw [hN.2.2.2.2.2]
  refine ⟨fun q => ⟨q.1, fun u u0 u1 => (key u u0 (by omega)).mp (q.2 u u0 (by omega))⟩, fun q => ⟨q.1, fun u u0 u1 => (key u u0 u1).mpr (q.2 u u0 (by omega))⟩⟩
