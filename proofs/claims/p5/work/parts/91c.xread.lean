/-! X: a text's tokens as a whole -/
/-- n tokens of the text h up to L: token i is sought from E i on; M i names stand before it -/
def TKS (σ : ZS) (h : Int → Int) (L n : Int) (E M : Int → Int) : Prop := E 0 = 0 ∧ M 0 = 0 ∧ ∀ i : Int, 0 ≤ i → i < n → isRun (fun j => h j = 32) L (E i) (zA σ 12 2 i) ∧ LXm h L (zA σ 11 0) (zA σ 12 2 i) (E (i + 1)) (zA σ 12 0 i) (zA σ 12 1 i) ∧ 0 ≤ M i ∧ ((zA σ 12 0 i = 3 ∧ ((0 ≤ zA σ 12 1 i ∧ zA σ 12 1 i < M i ∧ M (i + 1) = M i) ∨ (zA σ 12 1 i = M i ∧ M (i + 1) = M i + 1))) ∨ (¬ zA σ 12 0 i = 3 ∧ M (i + 1) = M i))
/-- names are different -/
def NDs (σ : ZS) : Prop := (∀ i j : Int, 0 ≤ i → i < zI σ 11 5 → 0 ≤ j → j < zI σ 11 5 → zA σ 11 0 i = zA σ 11 0 j → i = j) ∧ (zI σ 11 5 ≤ 24 → zI σ 11 6 = -1)
theorem TKS.add {σ τ : ZS} {h : Int → Int} {L : Int} {E M : Int → Int} {p e t v m : Int} (k : TKS σ h L (zI σ 12 3) E M) (hT : TI σ) (hp : xPut σ τ t v p) (hn : ∀ j : Int, 0 ≤ j → j < zI σ 11 5 → zA τ 11 0 j = zA σ 11 0 j) (run : isRun (fun j => h j = 32) L (E (zI σ 12 3)) p) (hx : LXm h L (zA τ 11 0) p e t v) (hM : 0 ≤ M (zI σ 12 3)) (hm : (t = 3 ∧ ((0 ≤ v ∧ v < M (zI σ 12 3) ∧ m = M (zI σ 12 3)) ∨ (v = M (zI σ 12 3) ∧ m = M (zI σ 12 3) + 1))) ∨ (¬ t = 3 ∧ m = M (zI σ 12 3))) : TKS τ h L (zI τ 12 3) (zu E (zI τ 12 3) e) (zu M (zI τ 12 3) m) := by
  obtain ⟨p0, p1, p2, p3⟩ := hp
  obtain ⟨k0, k1, k2⟩ := k
  have hz := hT.1
  have ne : ∀ i : Int, 0 ≤ i → i ≤ zI σ 12 3 → zu E (zI τ 12 3) e i = E i ∧ zu M (zI τ 12 3) m i = M i := fun i _ a => ⟨pu_ne (by omega), pu_ne (by omega)⟩
  refine ⟨by rw [(ne 0 (by omega) (by omega)).1]; exact k0, by rw [(ne 0 (by omega) (by omega)).2]; exact k1, fun i i0 i1 => ?_⟩
  rw [(ne i i0 (by omega)).1, (ne i i0 (by omega)).2, p1, p2, p3]
  by_cases ei : i = zI σ 12 3
  · rw [ei, pu_eq, pu_eq, pu_eq, show zI σ 12 3 + 1 = zI τ 12 3 from p0.symm, pu_eq, pu_eq]
    exact ⟨run, hx, hM, hm⟩
  · rw [pu_ne ei, pu_ne ei, pu_ne ei, (ne (i + 1) (by omega) (by omega)).1, (ne (i + 1) (by omega) (by omega)).2]
    obtain ⟨a, b, c, d⟩ := k2 i i0 (by omega)
    refine ⟨a, b.mo (fun q => ?_), c, d⟩
    have := (hT.2 i i0 (by omega)).2.2.2 q
    have := (hT.2 i i0 (by omega)).2.1
    exact hn _ (by omega) (by omega)
/-- what stands while a text is read up to a -/
def RX (h : Int → Int) (L a : Int) (τ : ZS) : Prop := RD τ ∧ ∃ E M : Int → Int, TKS τ h L (zI τ 12 3) E M ∧ (∀ i : Int, 0 ≤ i → i < zI τ 12 3 → zA τ 12 0 i ≠ 0) ∧ (0 ≤ E (zI τ 12 3) ∧ E (zI τ 12 3) ≤ a) ∧ (∀ j : Int, E (zI τ 12 3) ≤ j → j < a → h j = 32) ∧ M (zI τ 12 3) = zI τ 11 5 ∧ NDs τ ∧ 2 * zI τ 11 5 ≤ E (zI τ 12 3) + 1 ∧ (E (zI τ 12 3) < L → (cL (h (E (zI τ 12 3))) ∨ cD (h (E (zI τ 12 3)))) → 2 * zI τ 11 5 ≤ E (zI τ 12 3))
theorem RX.add {σ τ : ZS} {h : Int → Int} {L a e t v : Int} (hx : RX h L a σ) (hR : RD τ) (ha : a < L) (hb : h a ≠ 32) (ho : ob τ 11 = ob σ 11) (hp : xPut σ τ t v a) (hl : LXm h L (zA τ 11 0) a e t v) (he : a < e) (ht : t ≠ 3) (h0 : t ≠ 0) : RX h L e τ := by
  obtain ⟨hr, E, M, k1, k2, k3, k4, k5, k6, k7, k8⟩ := hx
  obtain ⟨rS, rR, rF, rT⟩ := hr
  have e5 := ob_I ho 5
  have ew := ob_A ho 0
  have hp' := hp
  obtain ⟨p0, p1, p2, p3⟩ := hp
  have hs := rS.1
  refine ⟨hR, _, _, k1.add rT hp' (fun j _ _ => by rw [ew]) ⟨k3.2, by omega, k4, Or.inr hb⟩ hl (by omega) (Or.inr ⟨ht, rfl⟩), fun i i0 i1 => ?_, by rw [pu_eq]; omega, fun j j0 j1 => ?_, by rw [pu_eq, e5]; exact k5, ?_, by rw [pu_eq]; omega, fun _ _ => by rw [pu_eq]; omega⟩
  · rw [p1]
    by_cases ei : i = zI σ 12 3
    · rw [ei, pu_eq]; exact h0
    · rw [pu_ne ei]; exact k2 i i0 (by omega)
  · rw [pu_eq] at j0; omega
  · unfold NDs; rw [e5, ob_I ho 6, ew]; exact k6
theorem RX.nam {σ τ : ZS} {h : Int → Int} {L a e v w : Int} (hx : RX h L a σ) (hR : RD τ) (ha : a < L) (hb : cL (h a)) (hn : xNam σ τ w v) (hp : xPut σ τ 3 v a) (hl : LXm h L (zA τ 11 0) a e 3 v) (he : isRun (fun j => cL (h j) ∨ cD (h j)) L (a + 1) e) : RX h L e τ := by
  obtain ⟨hr, E, M, k1, k2, k3, k4, k5, k6, k7, k8⟩ := hx
  obtain ⟨rS, rR, rF, rT⟩ := hr
  have hp' := hp
  obtain ⟨p0, p1, p2, p3⟩ := hp
  have hs := rS.1
  have hz := rT.1
  have hb2 : h a ≠ 32 := by unfold cL at hb; omega
  have he1 := he.1
  have hend : e < L → ¬ (cL (h e) ∨ cD (h e)) := fun q => by
    rcases he.2.2.2 with z | z
    · omega
    · exact z
  have hcap : 2 * zI σ 11 5 ≤ a := by
    by_cases q : E (zI σ 12 3) = a
    · rw [q] at k8; exact k8 ha (Or.inl hb)
    · omega
  have types : ∀ i : Int, 0 ≤ i → i < zI τ 12 3 → zA τ 12 0 i ≠ 0 := fun i i0 i1 => by
    rw [p1]
    by_cases ei : i = zI σ 12 3
    · rw [ei, pu_eq]; decide
    · rw [pu_ne ei]; exact k2 i i0 (by omega)
  rcases hn with ⟨n1, n2, n3, n4⟩ | ⟨n1, n2, n3, n4, n5⟩
  · have e5 := ob_I n4 5
    have ew := ob_A n4 0
    refine ⟨hR, _, _, k1.add rT hp' (fun j _ _ => by rw [ew]) ⟨k3.2, by omega, k4, Or.inr hb2⟩ hl (by omega) (Or.inl ⟨rfl, Or.inl ⟨n1, by omega, rfl⟩⟩), types, by rw [pu_eq]; omega, fun j j0 j1 => ?_, by rw [pu_eq, e5]; exact k5, ?_, by rw [pu_eq]; omega, fun _ _ => by rw [pu_eq]; omega⟩
    · rw [pu_eq] at j0; omega
    · unfold NDs; rw [e5, ob_I n4 6, ew]; exact k6
  · refine ⟨hR, _, _, k1.add rT hp' (fun j j0 j1 => by rw [n4, pu_ne (by omega)]) ⟨k3.2, by omega, k4, Or.inr hb2⟩ hl (by omega) (Or.inl ⟨rfl, Or.inr ⟨by omega, rfl⟩⟩), types, by rw [pu_eq]; omega, fun j j0 j1 => ?_, by rw [pu_eq]; omega, ?_, by rw [pu_eq]; omega, fun q z => absurd z (by rw [pu_eq] at q ⊢; exact hend q)⟩
    · rw [pu_eq] at j0; omega
    · refine ⟨fun i j i0 i1 j0 j1 eij => ?_, fun q => (n5 q).trans (k6.2 (by omega))⟩
      rw [n4] at eij
      have fresh : ∀ x : Int, 0 ≤ x → x < zI σ 11 5 → zA σ 11 0 x ≠ w := n2
      by_cases ei : i = zI σ 11 5 <;> by_cases ej : j = zI σ 11 5
      · omega
      · rw [ei, pu_eq, pu_ne ej] at eij; exact absurd eij.symm (fresh j j0 (by omega))
      · rw [ej, pu_eq, pu_ne ei] at eij; exact absurd eij (fresh i i0 (by omega))
      · rw [pu_ne ei, pu_ne ej] at eij; exact k6.1 i j i0 (by omega) j0 (by omega) eij
/-- a text that has been read -/
def RDx (h : Int → Int) (L : Int) (τ : ZS) (E M : Int → Int) : Prop := RD τ ∧ TKS τ h L (zI τ 12 3) E M ∧ 1 ≤ zI τ 12 3 ∧ zA τ 12 0 (zI τ 12 3 - 1) = 0 ∧ (∀ i : Int, 0 ≤ i → i < zI τ 12 3 - 1 → zA τ 12 0 i ≠ 0) ∧ M (zI τ 12 3) = zI τ 11 5 ∧ NDs τ
theorem x_read {σ : ZS} {L : Int} {Q : ZS → Prop} (hX : TX σ) (hN : NR σ) (hL : L = zI σ 10 1) (hQ : ∀ (τ : ZS) (E M : Int → Int), RDx (zA σ 10 0) L τ E M → kp [11, 12] σ τ → Q τ) : wpX9_read L σ Q := by
  have hl := hX.1
  have h32 : ∀ j : Int, 0 ≤ j → j < L → 32 ≤ zA σ 10 0 j := fun j a b => hX.2.2 j a (by omega)
  unfold wpX9_read wpX5_clear wpX9_read_17
  have f109 : ∀ τ : ZS, RX (zA σ 10 0) L L τ → kp [11, 12] σ τ → zI τ 12 3 ≤ 480 → wpX9_read_109 L τ Q := by
    intro τ hr hk hz
    obtain ⟨⟨uS, uR, uF, uT⟩, E, M, k1, k2, k3, k4, k5, k6, k7, k8⟩ := hr
    unfold wpX9_read_109
    refine x_put uT ⟨by decide, by decide, by omega, fun q => absurd q (by decide)⟩ hz (fun υ a b c => hQ υ _ _ ⟨⟨uS.k (b 11 (by decide)), uR.k (b 11 (by decide)), uF.k (b 11 (by decide)), a⟩, k1.add uT c (fun j _ _ => by rw [ob_A (b 11 (by decide)) 0]) ⟨k3.2, Int.le_refl _, k4, Or.inl rfl⟩ (Or.inl ⟨rfl, rfl, rfl⟩) (by have := uS.1; omega) (Or.inr ⟨by decide, rfl⟩), ?_, ?_, ?_, ?_, ?_⟩ (hk.tr (b.up (by decide))))
    · have := uT.1; have := c.1; omega
    · rw [c.1, c.2.1, show zI τ 12 3 + 1 - 1 = zI τ 12 3 by omega, pu_eq]
    · intro i i0 i1
      have := c.1
      rw [c.2.1, pu_ne (by omega)]; exact k2 i i0 (by omega)
    · rw [pu_eq, ob_I (b 11 (by decide)) 5]; exact k5
    · unfold NDs; rw [ob_I (b 11 (by decide)) 5, ob_I (b 11 (by decide)) 6, ob_A (b 11 (by decide)) 0]; exact k6
  refine lfp2_ind (fun _ v _ => (480 - v).toNat) (fun v3 v4 τ => RX (zA σ 10 0) L v3 τ ∧ kp [11, 12] σ τ ∧ zI τ 12 3 ≤ v3 ∧ (0 ≤ v3 ∧ v3 ≤ L) ∧ 0 ≤ v4 ∧ v4 ≤ v3) (fun K v3 v4 τ hI ih => ?_) ⟨⟨⟨⟨(show (0 : Int) ≤ 0 ∧ (0 : Int) ≤ 240 by decide), (show (-1 : Int) ≤ -1 ∧ (-1 : Int) ≤ 480 by decide), fun q => absurd (show (25 : Int) ≤ 0 from q) (by decide)⟩, hN, fun n n0 n1 => ?_, ⟨(show (0 : Int) ≤ 0 ∧ (0 : Int) ≤ 481 by decide), fun i i0 i1 => ?_⟩⟩, fun _ => 0, fun _ => 0, ⟨rfl, rfl, fun i i0 i1 => ?_⟩, fun i i0 i1 => ?_, (show (0 : Int) ≤ 0 ∧ (0 : Int) ≤ 0 by decide), fun j j0 j1 => ?_, rfl, ⟨fun i j i0 i1 => ?_, fun _ => rfl⟩, (show 2 * (0 : Int) ≤ 0 + 1 by decide), fun _ _ => (show 2 * (0 : Int) ≤ 0 by decide)⟩, ((kp.rf.ti (by decide)).ti (by decide)).ti (by decide), (show (0 : Int) ≤ 0 by decide), by omega, by omega⟩
  · obtain ⟨hr, hk, hz, h3, h4⟩ := hI
    have e10 := hk 10 (by decide)
    have eh : zA τ 10 0 = zA σ 10 0 := ob_A e10 0
    have hX' : TX τ := hX.k e10
    have done : v3 = L → wpX9_read_109 L τ Q := fun q => by rw [q] at hr; exact f109 τ hr hk (by omega)
    unfold wpbX9_read_17
    refine ⟨by omega, by omega, fun _ => done (by omega), fun a => ⟨by omega, fun _ => done (by omega), fun b => ⟨by omega, ?_⟩⟩⟩
    have hc := hX'.2.1 v3 (by omega) (by omega)
    have go : ∀ (x : Int) (υ : ZS), v3 < x → x ≤ L → RX (zA σ 10 0) L x υ → kp [11, 12] τ υ → zI υ 12 3 ≤ zI τ 12 3 + 1 → K x (v4 + 1) υ := fun x υ x0 x1 ur uk uz => ih _ _ _ ⟨ur, hk.tr uk, by omega, by omega, by omega⟩ (by omega)
    have hr0 := hr
    obtain ⟨⟨uS, uR, uF, uT⟩, E, M, k1, k2, k3, k4, k5, k6, k7, k8⟩ := hr
    have f95 : ∀ t : Int, (0 ≤ t ∧ t ≤ 126) → t ≠ 3 → t ≠ 0 → ¬ cL (zA σ 10 0 v3) → ¬ cD (zA σ 10 0 v3) → zA σ 10 0 v3 ≠ 32 → ((cS (zA σ 10 0 v3) ∧ t = zA σ 10 0 v3) ∨ (¬ cS (zA σ 10 0 v3) ∧ t = 1)) → wpX9_read_95 K L v3 v4 t τ Q := by
      intro t ht h3' h0 nl nd n32 hs
      unfold wpX9_read_95 wpX9_read_100 wpX9_read_103
      refine x_put uT ⟨ht, by decide, by omega, fun q => absurd q h3'⟩ (by omega) (fun υ a b c => ?_)
      exact go _ _ (by omega) (by omega) (hr0.add ⟨uS.k (b 11 (by decide)), uR.k (b 11 (by decide)), uF.k (b 11 (by decide)), a⟩ (by omega) n32 (b 11 (by decide)) c (Or.inr (Or.inr (Or.inr ⟨by omega, nl, nd, n32, rfl, hs⟩))) (by omega) h3' h0) (b.up (by decide)) (by have := c.1; omega)
    rw [eh] at hc ⊢
    refine c_isLetter (by omega) (fun q => ⟨by decide, fun q' => absurd q' (by decide), fun _ => ?_⟩) (fun q => ⟨by decide, fun _ => ?_, fun q' => absurd rfl q'⟩)
    · unfold wpX9_read_103
      have n32 : zA σ 10 0 v3 ≠ 32 := by unfold cL at q; omega
      have hcap : 2 * zI τ 11 5 ≤ v3 := by
        by_cases q2 : E (zI τ 12 3) = v3
        · rw [q2] at k8; exact k8 (by omega) (Or.inl q)
        · omega
      refine x_readWord hX' ⟨uS, uR, uF, uT⟩ (by omega) (by rw [eh]; exact q) (by omega) (by omega) (fun x υ t v ur uk hrun hw hp => ?_)
      rw [eh] at hrun hw
      have xl := hrun.1
      have xr := hrun.2.1
      have hp0 := hp.1
      refine go _ _ (by omega) xr ?_ uk (by omega)
      rcases hw with ⟨w1, w2, w3⟩ | ⟨w1, c, w2, w3⟩
      · exact hr0.add ur (by omega) n32 w3 hp (Or.inr (Or.inl ⟨by omega, q, hrun, Or.inl ⟨w1, w2⟩⟩)) (by omega) (by omega) (by omega)
      · rcases w3 with ⟨w3, w4, w5⟩ | ⟨w3, w4⟩
        · subst w4
          refine hr0.nam ur (by omega) q w5 hp (Or.inr (Or.inl ⟨by omega, q, hrun, Or.inr ⟨w1, c, w2, Or.inl ⟨w3, rfl, ?_⟩⟩⟩)) hrun
          rcases w5 with ⟨n1, n2, n3, n4⟩ | ⟨n1, n2, n3, n4, -⟩
          · rw [ob_A n4 0]; exact n3
          · rw [n4, n1, pu_eq]
        · exact hr0.add ur (by omega) n32 w4 hp (Or.inr (Or.inl ⟨by omega, q, hrun, Or.inr ⟨w1, c, w2, Or.inr w3⟩⟩)) (by omega) (by omega) (by omega)
    · refine c_isDigit (by omega) (fun q2 => ⟨by decide, fun q' => absurd q' (by decide), fun _ => ?_⟩) (fun q2 => ⟨by decide, fun _ => ⟨by omega, fun b32 => ?_, fun n32 => ?_⟩, fun q' => absurd rfl q'⟩)
      · unfold wpX9_read_103
        have n32 : zA σ 10 0 v3 ≠ 32 := by unfold cD at q2; omega
        refine x_readNumber hX' uT (by omega) (by rw [eh]; exact q2) (by omega) (fun x υ t v ut uk hrun hw hp => ?_)
        rw [eh] at hrun hw
        have xl := hrun.1
        have xr := hrun.2.1
        have hp0 := hp.1
        have ht : t ≠ 3 ∧ t ≠ 0 := by rcases hw with w | w <;> omega
        exact go _ _ (by omega) xr (hr0.add ⟨uS.k (uk 11 (by decide)), uR.k (uk 11 (by decide)), uF.k (uk 11 (by decide)), ut⟩ (by omega) n32 (uk 11 (by decide)) hp (Or.inr (Or.inr (Or.inl ⟨by omega, q2, hrun, hw⟩))) (by omega) ht.1 ht.2) (uk.up (by decide)) (by omega)
      · unfold wpX9_read_100 wpX9_read_103
        refine go _ _ (by omega) (by omega) ⟨⟨uS, uR, uF, uT⟩, E, M, k1, k2, ⟨k3.1, by omega⟩, fun j j0 j1 => ?_, k5, k6, k7, k8⟩ kp.rf (by omega)
        by_cases ej : j = v3
        · rw [ej]; exact b32
        · exact k4 j j0 (by omega)
      · have h32' := h32 v3 (by omega) (by omega)
        refine x_indexOf (by omega) (fun x hx hxs => ⟨by omega, fun z => f95 1 (by decide) (by decide) (by decide) q q2 n32 (Or.inr ⟨fun y => ?_, rfl⟩), fun z => f95 _ (by omega) (by omega) (by omega) q q2 n32 (Or.inl ⟨hxs.mp (by omega), rfl⟩)⟩)
        have := hxs.mpr y
        omega
  · have n1' : n < 0 := n1
    omega
  · have i1' : i < 0 := i1
    omega
  · have i1' : i < 0 := i1
    omega
  · have i1' : i < 0 := i1
    omega
  · have j0' : (0 : Int) ≤ j := j0
    omega
  · have i1' : i < 0 := i1
    omega
