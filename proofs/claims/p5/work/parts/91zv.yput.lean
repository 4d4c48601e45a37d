/-! Y: the reference puts a piece, exactly -/
def qO (β : ZS) (p o : Int) : Int := psum (zA β 0 36) (zA β 0 28 p).toNat + o
def qD (β : ZS) (p : Int) : Int := zA β 0 16 (zA β 0 25 p) - zA β 0 29 p - szp β p
def qNe (β : ZS) (d : MD) (p : Int) : MD := if zA β 0 13 (zA β 0 25 p) = 3 then mW (mF d 2 (zA β 0 28 p) (zA β 0 29 p + 1) (zA β 0 25 p)) (qO β p (zA β 0 29 p + 1)) 0 else mW d (qO β p (zA β 0 29 p + 1)) (qD β p)
def qI (β : ZS) (d : MD) (p : Int) : MD := if zA β 0 24 p = 0 then mB d (qO β p (zA β 0 29 p)) (zA β 0 25 p) else if zA β 0 24 p = 1 then mW d (qO β p (zA β 0 29 p)) (zA β 0 25 p) else if zA β 0 24 p = 2 then mW (mF d 0 (zA β 0 28 p) (zA β 0 29 p) (zA β 0 25 p)) (qO β p (zA β 0 29 p)) (zA β 0 26 p + (if zA β 0 13 (zA β 0 25 p) = 2 then zA β 0 16 (zA β 0 25 p) else 0)) else if zA β 0 24 p = 3 then mW (mF d 1 (zA β 0 28 p) (zA β 0 29 p) (zA β 0 25 p)) (qO β p (zA β 0 29 p)) 0 else if zA β 0 24 p = 4 then (if zA β 0 30 p = 0 then mB (mB d (qO β p (zA β 0 29 p)) 235) (qO β p (zA β 0 29 p + 1)) (qD β p) else qNe β (mB d (qO β p (zA β 0 29 p)) 233) p) else if zA β 0 24 p = 5 then mB (mB d (qO β p (zA β 0 29 p)) (zA β 0 26 p)) (qO β p (zA β 0 29 p + 1)) (qD β p) else if zA β 0 24 p = 6 then qNe β (mB d (qO β p (zA β 0 29 p)) 232) p else d
/-- the reference's module holds d -/
def MQr (β : ZS) (m : Int) (τ : ZS) (d : MD) : Prop := (∀ j : Int, 0 ≤ j → j < 400 → zA τ 0 49 (400 * m + j) = d.co j) ∧ zA τ 0 50 m = d.nf ∧ (∀ k : Int, 0 ≤ k → k < d.nf → zA τ 0 51 (200 * m + k) = d.fk k ∧ zA τ 0 52 (200 * m + k) = d.fs k ∧ zA τ 0 53 (200 * m + k) = d.fp k ∧ zA τ 0 54 (200 * m + k) = (if zA β 0 13 (d.fn k) = 3 then -1 else zA β 0 14 (d.fn k)) ∧ zA τ 0 55 (200 * m + k) = zA β 0 12 (d.fn k))
/-- what else other modules have stays -/
def OV (m : Int) (σ τ : ZS) : Prop := (∀ i : Int, i < 24 * m ∨ 24 * m + 24 ≤ i → zA τ 0 45 i = zA σ 0 45 i) ∧ (∀ i : Int, i < 400 * m ∨ 400 * m + 400 ≤ i → zA τ 0 49 i = zA σ 0 49 i) ∧ (∀ f : Int, f < 200 * m ∨ 200 * m + 200 ≤ f → zA τ 0 55 f = zA σ 0 55 f) ∧ (∀ q : Int, q < 80 * m ∨ 80 * m + 80 ≤ q → zA τ 0 57 q = zA σ 0 57 q)
theorem OV.rf {m : Int} {σ : ZS} : OV m σ σ := ⟨fun _ _ => rfl, fun _ _ => rfl, fun _ _ => rfl, fun _ _ => rfl⟩
theorem OV.tr {m : Int} {σ τ υ : ZS} (h : OV m σ τ) (k : OV m τ υ) : OV m σ υ := ⟨fun i q => (k.1 i q).trans (h.1 i q), fun i q => (k.2.1 i q).trans (h.2.1 i q), fun i q => (k.2.2.1 i q).trans (h.2.2.1 i q), fun i q => (k.2.2.2 i q).trans (h.2.2.2 i q)⟩
def PV (β : ZS) (m : Int) (τ υ : ZS) (d : MD) : Prop := PU β m τ υ d.nf ∧ MQr β m υ d ∧ OV m τ υ
theorem y_set {β τ υ : ZS} {m p o bb : Int} {d : MD} {R : ZS → Prop} (hm : 0 ≤ m ∧ m ≤ 2) (hs : 0 ≤ zA β 0 28 p ∧ zA β 0 28 p < zI β 0 34) (w24 : zI β 0 34 ≤ 24) (hbeg : 0 ≤ psum (zA β 0 36) (zA β 0 28 p).toNat ∧ psum (zA β 0 36) (zA β 0 28 p).toNat + zA β 0 36 (zA β 0 28 p) ≤ 400) (hT : MT β m τ) (hP : PV β m τ υ d) (o0 : 0 ≤ o) (o1 : o < zA β 0 36 (zA β 0 28 p)) (hR : ∀ ω : ZS, PV β m τ ω (mB d (qO β p o) bb) → R ω) : wpX11_set m (zA β 0 28 p) o bb υ R := by
  obtain ⟨⟨hPf, hPo, hPm, hPx, hPc⟩, ⟨m1, m2, m3⟩, v1, v2, v3, v4⟩ := hP
  have e47 : zA υ 0 47 (24 * m + zA β 0 28 p) = psum (zA β 0 36) (zA β 0 28 p).toNat := by rw [hPf.2 47 (by decide)]; exact (hT _ hs.1 hs.2).1
  unfold wpX11_set
  rw [e47]
  refine ⟨by omega, by omega, hR _ ⟨⟨hPf.ta (by decide), hPo, ?_, hPx, hPc⟩, ⟨fun j j0 j1 => ?_, m2, m3⟩, v1, fun i hi => ?_, v3, v4⟩⟩
  · obtain ⟨g1, g2, g3, g4, g5⟩ := hPm
    refine ⟨g1, g2, g3, fun i i0 i1 => ?_, g5⟩
    show 0 ≤ zu (zA υ 0 49) (400 * m + psum (zA β 0 36) (zA β 0 28 p).toNat + o) (bb % 256) i ∧ zu (zA υ 0 49) (400 * m + psum (zA β 0 36) (zA β 0 28 p).toNat + o) (bb % 256) i ≤ 255
    by_cases e : i = 400 * m + psum (zA β 0 36) (zA β 0 28 p).toNat + o
    · rw [e, pu_eq]; omega
    · rw [pu_ne e]; exact g4 i i0 i1
  · show zu (zA υ 0 49) (400 * m + psum (zA β 0 36) (zA β 0 28 p).toNat + o) (bb % 256) (400 * m + j) = zu d.co (psum (zA β 0 36) (zA β 0 28 p).toNat + o) (bb % 256) j
    by_cases e : j = psum (zA β 0 36) (zA β 0 28 p).toNat + o
    · rw [e, pu_eq, show 400 * m + (psum (zA β 0 36) (zA β 0 28 p).toNat + o) = 400 * m + psum (zA β 0 36) (zA β 0 28 p).toNat + o by omega, pu_eq]
    · rw [pu_ne e, pu_ne (by omega)]; exact m1 j j0 j1
  · show zu (zA υ 0 49) (400 * m + psum (zA β 0 36) (zA β 0 28 p).toNat + o) (bb % 256) i = _
    rw [pu_ne (by omega)]; exact v2 i hi
theorem y_fix {β τ υ : ZS} {m p k o n : Int} {d : MD} {R : ZS → Prop} (hm : 0 ≤ m ∧ m ≤ 2) (hb : ∀ j : Nat, j ∉ WA → zA τ 0 j = zA β 0 j) (w1 : G1 β) (hs : 0 ≤ zA β 0 28 p ∧ zA β 0 28 p < zI β 0 34) (hP : PV β m τ υ d) (hk : 0 ≤ k ∧ k ≤ 2) (o0 : 0 ≤ o) (o1 : o + 2 ≤ zA β 0 36 (zA β 0 28 p)) (hn : 0 ≤ n ∧ n < 240) (ha1 : -1 ≤ zA β 0 14 n) (ha2 : zA β 0 13 n ≠ 3 → zA β 0 14 n < zI β 0 34) (hlim : 0 ≤ d.nf ∧ d.nf ≤ 199) (hR : ∀ ω : ZS, PV β m τ ω (mF d k (zA β 0 28 p) o n) → R ω) : wpX11_fix m k (zA β 0 28 p) o n υ R := by
  have hUW : ∀ j ∈ UA, j ∈ WA := by decide
  obtain ⟨⟨hPf, hPo, hPm, hPx, hPc⟩, ⟨m1, m2, m3⟩, v1, v2, v3, v4⟩ := hP
  have ku : ∀ j : Nat, j ∉ WA → zA υ 0 j = zA β 0 j := fun j hj => (hPf.2 j (fun q => hj (hUW j q))).trans (hb j hj)
  have hso := (w1 n hn.1 hn.2).1
  have hnm := (w1 n hn.1 hn.2).2.2.2
  have go : ∀ ab : Int, -1 ≤ ab → ab < zI β 0 34 → ab = (if zA β 0 13 n = 3 then -1 else zA β 0 14 n) → wpX11_fix_67 m n (200 * m + d.nf) ab (200 * m + d.nf) (zsA (zsA (zsA υ 0 51 (200 * m + d.nf) k) 0 52 (200 * m + d.nf) (zA β 0 28 p)) 0 53 (200 * m + d.nf) o) R := by
    intro ab a0 a1 eab
    unfold wpX11_fix_67
    have e50 : zA (zsA (zsA (zsA (zsA (zsA (zsA υ 0 51 (200 * m + d.nf) k) 0 52 (200 * m + d.nf) (zA β 0 28 p)) 0 53 (200 * m + d.nf) o) 0 54 (200 * m + d.nf) ab) 0 55 (200 * m + d.nf) (zA (zsA (zsA (zsA υ 0 51 (200 * m + d.nf) k) 0 52 (200 * m + d.nf) (zA β 0 28 p)) 0 53 (200 * m + d.nf) o) 0 12 n)) 0 50 m (zA (zsA (zsA (zsA υ 0 51 (200 * m + d.nf) k) 0 52 (200 * m + d.nf) (zA β 0 28 p)) 0 53 (200 * m + d.nf) o) 0 50 m + 1)) 0 50 m = d.nf + 1 := (pu_eq (h := zA υ 0 50)).trans (by show zA υ 0 50 m + 1 = _; rw [hPc])
    refine ⟨by omega, hn, by omega, by omega, hR _ ⟨⟨((((((hPf.ta (by decide)).ta (by decide)).ta (by decide)).ta (by decide)).ta (by decide)).ta (by decide)), ?_, ?_, ?_, e50⟩, ⟨m1, e50, ?_⟩, v1, v2, fun f hf' => ?_, v4⟩⟩
    · obtain ⟨o1', o2', o3', o4'⟩ := hPo
      refine ⟨fun j hj => ?_, o2', fun f hf' => ?_, o4'⟩
      · obtain ⟨x1, x2, x3, x4⟩ := o1' j hj
        refine ⟨x1, x2, ?_, x4⟩
        show zu (zA υ 0 50) m _ j = _
        rw [pu_ne hj]; exact x3
      · obtain ⟨x1, x2, x3, x4⟩ := o3' f hf'
        have hne : f ≠ 200 * m + d.nf := by omega
        refine ⟨?_, ?_, ?_, ?_⟩
        · show zu (zA υ 0 51) _ _ f = _; rw [pu_ne hne]; exact x1
        · show zu (zA υ 0 52) _ _ f = _; rw [pu_ne hne]; exact x2
        · show zu (zA υ 0 53) _ _ f = _; rw [pu_ne hne]; exact x3
        · show zu (zA υ 0 54) _ _ f = _; rw [pu_ne hne]; exact x4
    · obtain ⟨g1, g2, g3, g4, g5⟩ := hPm
      refine ⟨g1, fun i i0 i1 => ?_, g3, g4, g5⟩
      show 0 ≤ zu (zA υ 0 55) (200 * m + d.nf) (zA υ 0 12 n) i ∧ zu (zA υ 0 55) (200 * m + d.nf) (zA υ 0 12 n) i ≤ 72057594037927936
      by_cases e : i = 200 * m + d.nf
      · rw [e, pu_eq, ku 12 (by decide)]; exact hnm
      · rw [pu_ne e]; exact g2 i i0 i1
    · intro j j0 j1
      rw [e50] at j1
      show (0 ≤ zu (zA υ 0 51) (200 * m + d.nf) k (200 * m + j) ∧ zu (zA υ 0 51) (200 * m + d.nf) k (200 * m + j) ≤ 2) ∧ (0 ≤ zu (zA υ 0 52) (200 * m + d.nf) (zA β 0 28 p) (200 * m + j) ∧ zu (zA υ 0 52) (200 * m + d.nf) (zA β 0 28 p) (200 * m + j) < zI β 0 34) ∧ 0 ≤ zu (zA υ 0 53) (200 * m + d.nf) o (200 * m + j) ∧ zu (zA υ 0 53) (200 * m + d.nf) o (200 * m + j) + 2 ≤ zA β 0 36 (zu (zA υ 0 52) (200 * m + d.nf) (zA β 0 28 p) (200 * m + j)) ∧ (-1 ≤ zu (zA υ 0 54) (200 * m + d.nf) ab (200 * m + j) ∧ zu (zA υ 0 54) (200 * m + d.nf) ab (200 * m + j) < zI β 0 34)
      by_cases e : j = d.nf
      · rw [e, pu_eq, pu_eq, pu_eq, pu_eq]; exact ⟨hk, hs, o0, o1, a0, a1⟩
      · have hne : 200 * m + j ≠ 200 * m + d.nf := by omega
        rw [pu_ne hne, pu_ne hne, pu_ne hne, pu_ne hne]
        exact hPx j j0 (by omega)
    · intro j j0 j1
      have j1' : j < d.nf + 1 := j1
      show zu (zA υ 0 51) (200 * m + d.nf) k (200 * m + j) = zu d.fk d.nf k j ∧ zu (zA υ 0 52) (200 * m + d.nf) (zA β 0 28 p) (200 * m + j) = zu d.fs d.nf (zA β 0 28 p) j ∧ zu (zA υ 0 53) (200 * m + d.nf) o (200 * m + j) = zu d.fp d.nf o j ∧ zu (zA υ 0 54) (200 * m + d.nf) ab (200 * m + j) = (if zA β 0 13 (zu d.fn d.nf n j) = 3 then -1 else zA β 0 14 (zu d.fn d.nf n j)) ∧ zu (zA υ 0 55) (200 * m + d.nf) (zA υ 0 12 n) (200 * m + j) = zA β 0 12 (zu d.fn d.nf n j)
      by_cases e : j = d.nf
      · rw [e, pu_eq, pu_eq, pu_eq, pu_eq, pu_eq, pu_eq, pu_eq, pu_eq, pu_eq, ku 12 (by decide)]; exact ⟨rfl, rfl, rfl, eab, rfl⟩
      · have hne : 200 * m + j ≠ 200 * m + d.nf := by omega
        rw [pu_ne hne, pu_ne hne, pu_ne hne, pu_ne hne, pu_ne hne, pu_ne e, pu_ne e, pu_ne e, pu_ne e]
        exact m3 j j0 (by omega)
    · show zu (zA υ 0 55) (200 * m + d.nf) (zA υ 0 12 n) f = _
      rw [pu_ne (by omega)]; exact v3 f hf'
  unfold wpX11_fix
  rw [hPc, ku 13 (by decide), ku 14 (by decide)]
  exact ⟨by omega, by omega, hn, by omega, fun n3 => go _ ha1 (ha2 n3) (by rw [if_neg n3]), fun y3 => go (-1) (by decide) (by omega) (by rw [if_pos y3])⟩
theorem y_put {β τ : ZS} {m p : Int} {d : MD} {Q : ZS → Prop} (hW : WC β) (hm : 0 ≤ m ∧ m ≤ 2) (hp : 0 ≤ p ∧ p < zI β 0 31) (hf : fr [] WA β τ) (hT : MT β m τ) (hM : GM τ) (hX : FX β m τ) (hc : 0 ≤ d.nf ∧ 2 * d.nf ≤ psum (szp β) p.toNat) (hR : MQr β m τ d) (hQ : ∀ υ : ZS, fr [] UA τ υ → OU m τ υ → GM υ → FX β m υ → (0 ≤ (qI β d p).nf ∧ 2 * (qI β d p).nf ≤ psum (szp β) (p + 1).toNat) → MQr β m υ (qI β d p) → OV m τ υ → Q υ) : wpX11_put m p τ Q := by
  obtain ⟨w1, w2, w3, wO, wL, wS, w24, wal, wsum, wne, wab, wpb, wus, wcn⟩ := hW
  obtain ⟨s31, s34, sg⟩ := wS
  obtain ⟨q1, q2, q3, q4, q5, q6, q7, q8⟩ := w3 p hp.1 (by omega)
  have hs := sg p hp.1 hp.2
  have hat := wL.2.1 p hp.1 hp.2
  have hzb := szp_bd w3 hp.1 (by omega)
  have hstep : psum (szp β) (p + 1).toNat = psum (szp β) p.toNat + szp β p := by
    rw [show (p + 1).toNat = p.toNat + 1 by omega]
    show psum (szp β) p.toNat + szp β ((p.toNat : Nat) : Int) = _
    rw [show ((p.toNat : Nat) : Int) = p by omega]
  have hnn : ∀ j : Int, 0 ≤ j → j < ((zI β 0 34).toNat : Int) → 0 ≤ zA β 0 36 j := fun j a b => (wL.1 j a (by omega)).1
  have hmono : psum (szp β) (p + 1).toNat ≤ psum (szp β) (zI β 0 31).toNat := psum_mono _ (by omega) (fun j a b => (szp_bd w3 a (by omega)).1)
  have hbeg : 0 ≤ psum (zA β 0 36) (zA β 0 28 p).toNat ∧ psum (zA β 0 36) (zA β 0 28 p).toNat + zA β 0 36 (zA β 0 28 p) ≤ 400 := by
    refine ⟨psum_nn _ (fun j a b => hnn j a (by omega)), ?_⟩
    have h1 := psum_mono (f := zA β 0 36) (m := (zA β 0 28 p).toNat + 1) (zI β 0 34).toNat (by omega) hnn
    have h2 : psum (zA β 0 36) ((zA β 0 28 p).toNat + 1) = psum (zA β 0 36) (zA β 0 28 p).toNat + zA β 0 36 (((zA β 0 28 p).toNat : Nat) : Int) := rfl
    rw [show (((zA β 0 28 p).toNat : Nat) : Int) = zA β 0 28 p by omega] at h2
    omega
  have b : ∀ j : Nat, j ∉ WA → zA τ 0 j = zA β 0 j := hf.2
  have PU0 : PV β m τ τ d := ⟨⟨fr.rf, OU.rf, hM, hX, hR.2.1⟩, hR, OV.rf⟩
  have hUW : ∀ j ∈ UA, j ∈ WA := by decide
  have keep : ∀ (υ : ZS) (e : MD), PV β m τ υ e → ∀ j : Nat, j ∉ WA → zA υ 0 j = zA β 0 j := fun υ c h j hj => (h.1.1.2 j (fun q => hj (hUW j q))).trans (b j hj)
  have fin : ∀ (υ : ZS) (e : MD), PV β m τ υ e → 0 ≤ e.nf → 2 * e.nf ≤ psum (szp β) p.toNat + szp β p → e = qI β d p → Q υ := fun υ e h c0 c1 ee => by
    rw [ee] at h c0 c1
    exact hQ υ h.1.1 h.1.2.1 h.1.2.2.1 h.1.2.2.2.1 (by rw [hstep]; exact ⟨c0, c1⟩) h.2.1 h.2.2
  have hlim : d.nf + 1 ≤ 200 ∨ szp β p < 2 := by
    have := wL.2.2
    omega
  have set : ∀ (υ : ZS) (o bb : Int) (e : MD) (R : ZS → Prop), PV β m τ υ e → 0 ≤ o → o < zA β 0 36 (zA β 0 28 p) → (∀ ω : ZS, PV β m τ ω (mB e (qO β p o) bb) → R ω) → wpX11_set m (zA β 0 28 p) o bb υ R := fun υ o bb e R hP o0 o1 h => y_set hm hs w24 hbeg hT hP o0 o1 h
  have fix : ∀ (υ : ZS) (k o n : Int) (e : MD) (R : ZS → Prop), PV β m τ υ e → e.nf = d.nf → (0 ≤ k ∧ k ≤ 2) → 0 ≤ o → o + 2 ≤ zA β 0 36 (zA β 0 28 p) → (0 ≤ n ∧ n < 240) → -1 ≤ zA β 0 14 n → (zA β 0 13 n ≠ 3 → zA β 0 14 n < zI β 0 34) → 2 ≤ szp β p → (∀ ω : ZS, PV β m τ ω (mF e k (zA β 0 28 p) o n) → R ω) → wpX11_fix m k (zA β 0 28 p) o n υ R := fun υ k o n e R hP en hk o0 o1 hn a1 a2 z2 h => y_fix hm b w1 hs hP hk o0 o1 hn a1 a2 (by omega) h
  -- two bytes
  have two : ∀ (υ : ZS) (o v sk : Int) (e : MD), PV β m τ υ e → 0 ≤ e.nf → 2 * e.nf ≤ psum (szp β) p.toNat + szp β p → 0 ≤ o + sk → o + sk + 1 < zA β 0 36 (zA β 0 28 p) → (-2147483648 ≤ v ∧ v ≤ 2147483647) → mW e (qO β p (o + sk)) v = qI β d p → wpX11_put_320 m (zA β 0 28 p) o v sk υ Q := by
    intro υ o v sk e hP c0 c1 o0 o1 hv ee
    unfold wpX11_put_320
    refine set υ _ _ e _ hP o0 (by omega) (fun ω hω => ⟨hv, set ω _ _ _ _ hω (by omega) (by omega) (fun ψ hψ => fin ψ _ hψ c0 c1 ?_)⟩)
    rw [← ee, show qO β p (o + sk + 1) = qO β p (o + sk) + 1 by unfold qO; omega]
    rfl
  have dist : ∀ (υ : ZS) (e : MD) (R : Int → ZS → Prop), PV β m τ υ e → (0 ≤ zA β 0 25 p ∧ zA β 0 25 p < 240) → (-1000000 ≤ qD β p → qD β p ≤ 1000000 → R (qD β p) υ) → wpX11_distance p υ R := by
    intro υ e R hP hn hR'
    have ku := keep υ e hP
    have h3u : G3 υ := by unfold G3; rw [ku 24 (by decide), ku 25 (by decide), ku 26 (by decide), ku 27 (by decide), ku 28 (by decide), ku 30 (by decide)]; exact w3
    have hsz := szp_eq (ku 24 (by decide)) (ku 25 (by decide)) (ku 30 (by decide))
    have hbd : -1000000 ≤ qD β p ∧ qD β p ≤ 1000000 := by
      unfold qD
      have := wO (zA β 0 25 p) hn.1 hn.2
      omega
    refine s_distance h3u (by omega) (by rw [ku 25 (by decide)]; exact hn) ?_
    rw [ku 25 (by decide), ku 16 (by decide), ku 29 (by decide), hsz]
    exact hR' hbd.1 hbd.2
  have hszv : szp β p = szf (zA β 0 24 p) (zA β 0 25 p) (zA β 0 30 p) := rfl
  have hc1 := hc.1
  -- jumps and calls
  have f183 : zA β 0 24 p = 4 ∨ zA β 0 24 p = 6 → wpX11_put_183 m p (zA β 0 28 p) (zA β 0 29 p) (zA β 0 25 p) τ Q := by
    intro h46
    have hn := q2 (by omega) (by omega)
    have hso := (w1 _ hn.1 hn.2).1
    have f208 : ∀ s0 : Int, (s0 = 0 ∨ s0 = 1) → (s0 = 0 → szp β p = 2 ∧ zA β 0 13 (zA β 0 25 p) ≠ 3 ∧ zA β 0 24 p = 4) → (s0 = 1 → szp β p = 3) → (s0 = 0 → mB (mB d (qO β p (zA β 0 29 p)) 235) (qO β p (zA β 0 29 p + 1)) (qD β p) = qI β d p) → (s0 = 1 → qNe β (mB d (qO β p (zA β 0 29 p)) (if zA β 0 24 p = 6 then 232 else 233)) p = qI β d p) → wpX11_put_208 m p (zA β 0 28 p) (zA β 0 29 p) (zA β 0 25 p) s0 τ Q := by
      intro s0 h01 hz0 hz1 r0 r1
      have f246 : ∀ by_ : Int, (s0 = 0 → by_ = 235) → (s0 = 1 → by_ = (if zA β 0 24 p = 6 then 232 else 233)) → wpX11_put_246 m p (zA β 0 28 p) (zA β 0 29 p) (zA β 0 25 p) s0 by_ (zA β 0 29 p) (zA β 0 28 p) m τ Q := by
        intro by_ b0 b1
        unfold wpX11_put_246
        refine set τ _ _ d _ PU0 hat.1 (by omega) (fun υ hυ => ?_)
        have ku := keep υ _ hυ
        have f295 : ∀ (ω : ZS) (v : Int) (e : MD), PV β m τ ω e → 0 ≤ e.nf → 2 * e.nf ≤ psum (szp β) p.toNat + szp β p → (-1000000 ≤ v ∧ v ≤ 1000000) → (s0 = 0 → mB e (qO β p (zA β 0 29 p + 1)) v = qI β d p) → (s0 = 1 → mW e (qO β p (zA β 0 29 p + 1)) v = qI β d p) → wpX11_put_295 m (zA β 0 28 p) (zA β 0 29 p) v s0 ω Q := by
          intro ω v e hω c0 c1 hv r0 r1
          unfold wpX11_put_295
          refine ⟨by omega, fun n0 => two ω _ _ _ e hω c0 c1 (by omega) (by have := hz1 (by omega); omega) (by omega) (r1 (by omega)), fun e0 => set ω _ _ e _ hω (by omega) (by have := hz0 e0; omega) (fun ψ hψ => fin ψ _ hψ c0 c1 (r0 e0))⟩
        have f269 : ∀ v : Int, -1000000 ≤ v → v ≤ 1000000 → (zA β 0 13 (zA β 0 25 p) ≠ 3 → v = qD β p) → (zA β 0 13 (zA β 0 25 p) = 3 → v = 0) → wpX11_put_269 m (zA β 0 28 p) (zA β 0 29 p) (zA β 0 25 p) s0 v υ Q := by
          intro v v0 v1 ev1 ev2
          unfold wpX11_put_269
          rw [ku 13 (by decide)]
          refine ⟨hn, by omega, fun n3 => f295 υ v _ hυ hc1 (by show 2 * d.nf ≤ _; omega) ⟨v0, v1⟩ (fun z => ?_) (fun z => ?_), fun e3 => ?_⟩
          · rw [← r0 z, b0 z, ev1 n3]
          · rw [← r1 z, b1 z, ev1 n3]
            unfold qNe
            rw [if_neg n3]
          have z3 : szp β p = 3 := by
            rcases h01 with h | h
            · exact absurd e3 (hz0 h).2.1
            · exact hz1 h
          refine fix υ 2 _ _ _ _ hυ rfl (by decide) (by omega) (by omega) hn (w1 _ hn.1 hn.2).2.1.1 (fun q => absurd e3 q) (by omega) (fun ω hω => f295 ω v _ hω (by show 0 ≤ d.nf + 1; omega) (by show 2 * (d.nf + 1) ≤ _; omega) ⟨v0, v1⟩ (fun z => absurd e3 (hz0 z).2.1) (fun z => ?_))
          rw [← r1 z, b1 z, ev2 e3]
          unfold qNe
          rw [if_pos e3]
        rw [ku 13 (by decide)]
        exact ⟨hn, by omega, fun n3 => dist υ _ _ hυ hn (fun d0 d1 => f269 _ d0 d1 (fun _ => rfl) (fun q => absurd q n3)), fun y3 => f269 0 (by decide) (by decide) (fun q => absurd y3 q) (fun _ => rfl)⟩
      unfold wpX11_put_208
      rw [b 24 (by decide)]
      refine ⟨by omega, by omega, fun n6 => ⟨by omega, fun z => f246 235 (fun _ => rfl) (fun q => by omega), fun nz => f246 233 (fun q => absurd q nz) (fun _ => by rw [if_neg n6])⟩, fun y6 => f246 232 (fun q => by have := (hz0 q).2.2; omega) (fun _ => by rw [if_pos y6])⟩
    unfold wpX11_put_183 wpX11_put_203
    rw [b 24 (by decide), b 30 (by decide)]
    have p46 : ∀ x : MD, (zA β 0 24 p = 4 → x = (if zA β 0 30 p = 0 then mB (mB d (qO β p (zA β 0 29 p)) 235) (qO β p (zA β 0 29 p + 1)) (qD β p) else qNe β (mB d (qO β p (zA β 0 29 p)) 233) p)) → (zA β 0 24 p = 6 → x = qNe β (mB d (qO β p (zA β 0 29 p)) 232) p) → x = qI β d p := by
      intro x x4 x6
      unfold qI
      rw [if_neg (by omega), if_neg (by omega), if_neg (by omega), if_neg (by omega)]
      rcases h46 with e | e
      · rw [if_pos e]; exact x4 e
      · rw [if_neg (by omega), if_neg (by omega), if_pos e]; exact x6 e
    refine ⟨by omega, by omega, fun e6 => f208 1 (Or.inr rfl) (fun q => absurd q (by decide)) (fun _ => by rw [hszv, e6]; rfl) (fun q => absurd q (by decide)) (fun _ => p46 _ (fun q => by omega) (fun _ => by rw [if_pos e6])), fun n6 => ⟨by omega, fun z => ?_, fun nz => ?_⟩⟩
    · have e4 : zA β 0 24 p = 4 := by omega
      refine f208 0 (Or.inl rfl) (fun _ => ⟨by rw [hszv, e4, z]; rfl, fun e3 => ?_, e4⟩) (fun q => absurd q (by decide)) (fun _ => p46 _ (fun _ => by rw [if_pos z]) (fun q => absurd q n6)) (fun q => absurd q (by decide))
      have := wne p hp.1 hp.2 e4 e3
      omega
    · have e4 : zA β 0 24 p = 4 := by omega
      refine f208 1 (Or.inr rfl) (fun q => absurd q (by decide)) (fun _ => ?_) (fun q => absurd q (by decide)) (fun _ => p46 _ (fun _ => by rw [if_neg n6, if_neg nz]) (fun q => absurd q n6))
      rw [hszv, e4, show zA β 0 30 p = 1 by omega]; rfl
  have z1 : zA β 0 24 p = 0 → szp β p = 1 := fun e => by rw [hszv, e]; rfl
  unfold wpX11_put
  rw [b 24 (by decide), b 28 (by decide), b 29 (by decide), b 25 (by decide), b 13 (by decide), b 16 (by decide), b 26 (by decide)]
  refine ⟨by omega, by omega, fun e => set τ _ _ d _ PU0 hat.1 (by have := z1 e; omega) (fun υ hυ => fin υ _ hυ hc1 (by show 2 * d.nf ≤ _; omega) (by unfold qI; rw [if_pos e])), fun n0 => ⟨fun e => ?_, fun n1 => ⟨fun e => ?_, fun n2 => ⟨fun e => ?_, fun n3 => ⟨fun e => f183 (Or.inl e), fun n4 => ⟨fun e => ?_, fun n5 => ⟨fun e => f183 (Or.inr e), fun n6 => fin τ d PU0 hc1 (by omega) (by unfold qI; rw [if_neg n0, if_neg n1, if_neg n2, if_neg n3, if_neg n4, if_neg n5, if_neg n6])⟩⟩⟩⟩⟩⟩⟩
  · have z2 : szp β p = 2 := by rw [hszv, e]; rfl
    exact two τ _ _ _ d PU0 hc1 (by omega) (by omega) (by omega) (by omega) (by unfold qI; rw [if_neg n0, if_pos e, Int.add_zero])
  · have z2 : szp β p = 2 := by rw [hszv, e]; rfl
    have hn := q2 (by omega) (by omega)
    have hso := (w1 _ hn.1 hn.2).1
    have hof := wO _ hn.1 hn.2
    have hab := wab p hp.1 hp.2 (Or.inl e)
    have f122 : ∀ s1 s0 : Int, -30000000 ≤ s1 + s0 → s1 + s0 ≤ 30000000 → s0 + s1 = zA β 0 26 p + (if zA β 0 13 (zA β 0 25 p) = 2 then zA β 0 16 (zA β 0 25 p) else 0) → wpX11_put_122 m (zA β 0 28 p) (zA β 0 29 p) (zA β 0 25 p) 0 s1 s0 τ Q := by
      intro s1 s0 z0 z1 es
      unfold wpX11_put_122
      exact fix τ 0 _ _ d _ PU0 rfl (by decide) hat.1 (by omega) hn hab.1 hab.2 (by omega) (fun ω hω => two ω _ _ _ _ hω (by show 0 ≤ d.nf + 1; omega) (by show 2 * (d.nf + 1) ≤ _; omega) (by omega) (by omega) (by omega) (by unfold qI; rw [if_neg n0, if_neg n1, if_pos e, Int.add_zero, es]))
    exact ⟨hn, by omega, fun n2' => f122 _ _ (by omega) (by omega) (by rw [if_neg n2']), fun y2 => f122 _ _ (by omega) (by omega) (by rw [if_pos y2])⟩
  · have z2 : szp β p = 2 := by rw [hszv, e]; rfl
    have hn := q2 (by omega) (by omega)
    have hab := wab p hp.1 hp.2 (Or.inr e)
    exact fix τ 1 _ _ d _ PU0 rfl (by decide) hat.1 (by omega) hn hab.1 hab.2 (by omega) (fun ω hω => two ω _ _ _ _ hω (by show 0 ≤ d.nf + 1; omega) (by show 2 * (d.nf + 1) ≤ _; omega) (by omega) (by omega) (by decide) (by unfold qI; rw [if_neg n0, if_neg n1, if_neg n2, if_pos e, Int.add_zero]))
  · have z2 : szp β p = 2 := by rw [hszv, e]; rfl
    have hn := q2 (by omega) (by omega)
    exact set τ _ _ d _ PU0 hat.1 (by omega) (fun υ hυ => dist υ _ _ hυ hn (fun d0 d1 => set υ _ _ _ _ hυ (by omega) (by omega) (fun ψ hψ => fin ψ _ hψ hc1 (by show 2 * d.nf ≤ _; omega) (by unfold qI; rw [if_neg n0, if_neg n1, if_neg n2, if_neg n3, if_neg n4, if_pos e]))))
