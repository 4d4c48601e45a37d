/-! X: the class's first wrong name, exactly -/
/-- the class's items, walked up to k -/
def yK (σ : ZS) (k : Int) : YD := yF (zA σ 13 0) (zA σ 13 1) (zA σ 13 2) k.toNat
theorem yK_s {σ : ZS} {k : Int} (h : 0 ≤ k) : yK σ (k + 1) = yI (yK σ k) (zA σ 13 0 k) (zA σ 13 1 k) (zA σ 13 2 k) := by
  unfold yK
  rw [show (k + 1).toNat = k.toNat + 1 by omega]
  show yI _ (zA σ 13 0 (k.toNat : Int)) (zA σ 13 1 (k.toNat : Int)) (zA σ 13 2 (k.toNat : Int)) = _
  rw [show ((k.toNat : Nat) : Int) = k by omega]
theorem yK.k {σ τ : ZS} {k : Int} (e0 : zA τ 13 0 = zA σ 13 0) (e1 : zA τ 13 1 = zA σ 13 1) (e2 : zA τ 13 2 = zA σ 13 2) : yK τ k = yK σ k := by
  unfold yK; rw [e0, e1, e2]
/-- items' segments -/
def DG (τ : ZS) (k : Int) : Prop := ∀ j : Int, 0 ≤ j → j < k → zA τ 13 5 j = (yK τ (j + 1)).cur
theorem x_declareAll {σ : ZS} {Q : ZS → Prop} (h1 : NR σ) (h2 : NS σ) (h3 : NF σ) (h4 : DJ σ) (h5 : -1 ≤ zI σ 15 5 ∧ zI σ 15 5 ≤ 480) (h6 : zI σ 15 5 = zI σ 11 6) (h7 : LRg σ) (h24 : zI σ 11 5 ≤ 24) (hm : zI σ 11 6 = -1) (hQ : ∀ τ : ZS, LY τ → DS τ (zI τ 13 7) → kp [11, 13, 15] σ τ → zI τ 11 5 = zI σ 11 5 → zI τ 11 6 = -1 → zI τ 13 7 = zI σ 13 7 → (∀ f : Nat, f ≠ 5 → zA τ 13 f = zA σ 13 f) → DXd τ (yS τ) (yS τ).cur → DG τ (zI τ 13 7) → zA τ 11 0 = zA σ 11 0 → Q τ) : wpX2_declareAll σ Q := by
  unfold wpX2_declareAll wpX2_declareAll_9
  refine lfp2_ind (fun _ v _ => (248 - v).toNat) (fun c v τ => LY τ ∧ CU τ c v ∧ DS τ v ∧ kp [11, 13, 15] σ τ ∧ (0 ≤ v ∧ v ≤ zI τ 13 7) ∧ zI τ 11 5 = zI σ 11 5 ∧ zI τ 11 6 = -1 ∧ zI τ 13 7 = zI σ 13 7 ∧ (∀ f : Nat, f ≠ 5 → zA τ 13 f = zA σ 13 f) ∧ DXd τ (yK τ v) c ∧ DG τ v ∧ zA τ 11 0 = zA σ 11 0) (fun K c v τ hI ih => ?_) ⟨⟨h1, h2, h4.k rfl (ob_i (by decide)), (show (0 : Int) ≤ 0 ∧ (0 : Int) ≤ 60 by decide), h5, fun q => absurd (show 0 ≤ zI σ 11 6 from q) (by omega), h7, fun n n0 n1 => ?_, fun s s0 s1 => ?_⟩, ⟨(show (-1 : Int) ≤ -1 ∧ (-1 : Int) < 0 by decide), fun _ => Or.inr ⟨rfl, fun j j0 j1 => absurd j0 (by omega)⟩⟩, fun j j0 j1 => absurd j0 (by omega), kp.i (by decide), ⟨by decide, h4.1.1.1⟩, rfl, hm, rfl, fun f _ => rfl, ⟨fun n n0 n1 => ?_, rfl, fun s s0 s1 => ?_, rfl, ?_⟩, fun j j0 j1 => absurd j0 (by omega), rfl⟩
  · obtain ⟨ly, cu, ds, k, ⟨v0, v1⟩, e5, e6, e7, ea, dx, dg, e0w⟩ := hI
    have hz := ly.sz
    -- on to the next
    have next : ∀ (x : Int) (υ : ZS), v < zI τ 13 7 → LY υ → CU υ x (v + 1) → ob υ 13 = ob τ 13 → kp [11, 15] τ υ → zI τ 15 4 ≤ zI υ 15 4 → zI υ 11 5 = zI τ 11 5 → zI υ 11 6 = zI τ 11 6 → DXd υ (yI (yK τ v) (zA τ 13 0 v) (zA τ 13 1 v) (zA τ 13 2 v)) x → zA υ 11 0 = zA τ 11 0 → wpX2_declareAll_90 K x v υ Q := by
      intro x υ lt uy uc e13 uk us u5 u6 ux u0
      have yk : ∀ k : Int, yK (zsA υ 13 5 v x) k = yK τ k := fun k => (yK.k (zA_f (by decide)) (zA_f (by decide)) (zA_f (by decide))).trans (yK.k (ob_A e13 0) (ob_A e13 1) (ob_A e13 2))
      unfold wpX2_declareAll_90
      refine ⟨by omega, ih _ _ _ ⟨uy.s5, uc, fun j j0 j1 => ?_, (k.tr (uk.up (by decide))).ta (by decide), ⟨by omega, ?_⟩, u5.trans e5, u6.trans e6, (ob_I e13 7).trans e7, fun f hf => ?_, ?_, fun j j0 j1 => ?_, u0.trans e0w⟩ (by omega)⟩
      · show -1 ≤ zu (zA υ 13 5) v x j ∧ zu (zA υ 13 5) v x j < zI υ 15 4
        by_cases e : j = v
        · rw [e, pu_eq]; exact uc.1
        · rw [pu_ne e, ob_A e13 5]
          have := ds j j0 (by omega)
          omega
      · show v + 1 ≤ zI υ 13 7
        rw [ob_I e13 7]; omega
      · rw [zA_f hf, ob_A e13 f]; exact ea f hf
      · rw [yk, yK_s v0]; exact ux
      · rw [yk]
        show zu (zA υ 13 5) v x j = _
        by_cases e : j = v
        · rw [e, pu_eq, yK_s v0]; exact ux.2.2.2.1
        · rw [pu_ne e, ob_A e13 5]; exact dg j j0 (by omega)
    unfold wpbX2_declareAll_9
    refine ⟨by omega, by omega, fun q => ?_, fun lt => ?_⟩
    · have ev : zI τ 13 7 = v := by omega
      have ey : yS τ = yK τ v := by unfold yS yK; rw [ev]
      refine hQ τ ly (by rw [ev]; exact ds) k e5 e6 e7 ea ?_ (by rw [ev]; exact dg) e0w
      rw [ey]
      have hc := dx.2.2.2.1
      rw [hc] at dx
      exact dx
    have it := ly.it v0 (by omega)
    obtain ⟨i1, i2, i3, i4, i5, i6, i7, i8, i9, i10⟩ := it
    have cu0 := cu
    obtain ⟨c1, c2⟩ := cu
    have h60 : zI τ 15 4 < 60 := by
      have := pigeon (f := zA τ 15 2) (g := zA τ 11 2) (n := zI τ 15 4) (k := zI τ 11 5) ly.2.2.2.1.1 (by have := ly.2.1.1; omega) (fun s s0 s1 => ⟨(ly.2.2.2.2.2.2.2.2 s s0 s1).1, (ly.2.2.2.2.2.2.2.2 s s0 s1).2.2⟩)
      omega
    have keep : zA τ 13 0 v ≠ 0 → CU τ c (v + 1) := by
      intro ne
      refine ⟨c1, fun w => ?_⟩
      rcases c2 w with q | ⟨q, r⟩
      · exact Or.inl q
      · refine Or.inr ⟨q, fun j j0 j1 => ?_⟩
        by_cases e : j = v
        · rw [e]; exact ne
        · exact r j j0 (by omega)
    have dec : ∀ υ : ZS, zA τ 13 0 v ≠ 0 → LY υ → ob υ 13 = ob τ 13 → kp [11, 15] τ υ → zI υ 15 4 = zI τ 15 4 → (zI υ 15 5 < 0 → zI τ 15 5 < 0) → zI υ 11 5 = zI τ 11 5 → zI υ 11 6 = zI τ 11 6 → DXd υ (yI (yK τ v) (zA τ 13 0 v) (zA τ 13 1 v) (zA τ 13 2 v)) c → zA υ 11 0 = zA τ 11 0 → wpX2_declareAll_90 K c v υ Q := by
      intro υ ne uy e13 uk us uw u5 u6 ux u0
      obtain ⟨d1, d2⟩ := keep ne
      refine next c υ (by omega) uy ⟨by rw [us]; exact d1, fun w => ?_⟩ e13 uk (by omega) u5 u6 ux u0
      rw [us, ob_A e13 0]; exact d2 (uw w)
    have same : zA τ 13 0 v ≠ 0 → zA τ 13 0 v ≠ 1 → zA τ 13 0 v ≠ 3 → wpX2_declareAll_90 K c v τ Q := by
      intro ne n1 n3
      have y := yI_o (d := yK τ v) (t := zA τ 13 0 v) (v := zA τ 13 1 v) (n := zA τ 13 2 v) i1.1 i1.2 ne n1 n3
      exact next c τ (by omega) ly (keep ne) rfl kp.rf (Int.le_refl _) rfl rfl (dx.w y.1 y.2.1 y.2.2) rfl
    refine ⟨by omega, by omega, fun e0 => x_openSegment ly ⟨v0, by omega⟩ e0 cu0 e6 h60 (fun x υ uy uc e13 uk us ux u0 => next x υ (by omega) uy uc e13 uk us ?_ ?_ ?_ u0), fun n0 => ⟨fun e1 => ?_, fun n1 => ⟨fun e2 => same n0 n1 (by omega), fun _ => ⟨fun e3 => ?_, fun n3 => same n0 n1 n3⟩⟩⟩⟩
    · rcases ux with ⟨-, -, -, y, -⟩ | ⟨-, -, -, -, -, y, -⟩ | ⟨-, -, y, -⟩
      · exact ob_I y 5
      · exact y
      · rw [y]
    · rcases ux with ⟨-, -, -, y, -⟩ | ⟨-, -, -, -, -, -, y, -⟩ | ⟨-, -, y, -⟩
      · exact ob_I y 6
      · exact y
      · rw [y]
    · have hn : 0 ≤ zA τ 13 2 v := i6 (by omega) (by omega) (by omega)
      rw [e0]
      exact dx.seg ⟨hn, i3.2⟩ ux
    · have hn : 0 ≤ zA τ 13 2 v := i6 (by omega) (by omega) (by omega)
      refine x_declare ly ⟨v0, by omega⟩ hn (Or.inl ⟨rfl, c1, fun w => ?_⟩) e6 (fun υ uy e13 uk us uw ux u0 => dec υ n0 uy e13 uk us uw ?_ ?_ ?_ u0)
      · rcases c2 w with q | ⟨q, r⟩
        · exact q
        · rcases ly.2.2.1.2 v v0 (by omega) with z | z | z | ⟨j, j0, j1, j2⟩
          · omega
          · omega
          · omega
          · exact absurd j2 (r j j0 j1)
      · rcases ux.2.2 with ⟨-, -, -, -, y, -⟩ | ⟨-, -, y⟩
        · exact y
        · exact ob_I y 5
      · rcases ux.2.2 with ⟨-, -, -, -, -, y, -⟩ | ⟨-, -, y⟩
        · exact y
        · exact ob_I y 6
      · rw [e1]
        exact dx.lab ⟨hn, i3.2⟩ ux
    · have hn : 0 ≤ zA τ 13 2 v := i6 (by omega) (by omega) (by omega)
      refine x_declare ly ⟨v0, by omega⟩ hn (Or.inr ⟨rfl, rfl⟩) e6 (fun υ uy e13 uk us uw ux u0 => dec υ n0 uy e13 uk us uw ?_ ?_ ?_ u0)
      · rcases ux.2.2 with ⟨-, -, -, -, y, -⟩ | ⟨-, -, y⟩
        · exact y
        · exact ob_I y 5
      · rcases ux.2.2 with ⟨-, -, -, -, -, y, -⟩ | ⟨-, -, y⟩
        · exact y
        · exact ob_I y 6
      · rw [e3]
        exact dx.ext ⟨hn, i3.2⟩ ux
  · obtain ⟨z1, z2⟩ := h3 n n0 n1
    have z1' : zA (zsI σ 15 4 0) 11 1 n = 0 := z1
    rw [z1']
    exact ⟨fun _ => z2, fun q => absurd q (by decide), fun q => absurd q (by decide), fun q => absurd q (by decide)⟩
  · have s1' : s < 0 := s1
    omega
  · obtain ⟨z1, z2⟩ := h3 n n0 n1
    exact ⟨z1, fun q => by have q' : (0 : Int) = 1 ∨ (0 : Int) = 2 := q; omega, fun q => by have q' : (0 : Int) = 1 := q; omega⟩
  · have s1' : s < 0 := s1
    omega
  · show zI σ 15 5 < 0 ↔ ¬ False
    rw [h6, hm]
    exact ⟨fun _ q => q, fun _ => by decide⟩
/-- an item whose use is right, as the class sees it -/
def uCc (σ : ZS) (i : Int) : Prop := (zA σ 13 0 i = 2 → zA σ 11 1 (zA σ 13 2 i) = 2) ∧ (zA σ 13 0 i = 7 ∨ zA σ 13 0 i = 8 → zA σ 11 1 (zA σ 13 2 i) ≠ 0) ∧ (zA σ 13 0 i = 9 ∨ zA σ 13 0 i = 11 → (zA σ 11 1 (zA σ 13 2 i) = 2 ∧ zA σ 11 2 (zA σ 13 2 i) = zA σ 13 5 i) ∨ zA σ 11 1 (zA σ 13 2 i) = 3) ∧ (zA σ 13 0 i = 10 → zA σ 11 1 (zA σ 13 2 i) = 2 ∧ zA σ 11 2 (zA σ 13 2 i) = zA σ 13 5 i) ∧ (zA σ 13 0 i = 12 → zA σ 11 1 (zA σ 13 2 i) = 2 ∨ zA σ 11 1 (zA σ 13 2 i) = 3)
theorem x_isUseRight {σ : ZS} {i : Int} {Q : Int → ZS → Prop} (h : LY σ) (hd : DS σ (zI σ 13 7)) (hi : 0 ≤ i ∧ i < zI σ 13 7) (h1 : uCc σ i → Q 1 σ) (h0 : 0 ≤ zA σ 13 2 i → ¬ uCc σ i → Q 0 σ) : wpX2_isUseRight i σ Q := by
  have hz := h.sz
  have hs := hd i hi.1 hi.2
  obtain ⟨i1, i2, i3, i4, i5, i6, i7, i8, i9, i10⟩ := h.it hi.1 hi.2
  have hN := h.2.1.1
  have a4 := h.2.2.2.1
  have f57 : ∀ s : Int, ((s = 1 ∧ zA σ 11 1 (zA σ 13 2 i) = 2 ∧ zA σ 11 2 (zA σ 13 2 i) = zA σ 13 5 i) ∨ (s = 0 ∧ ¬ (zA σ 11 1 (zA σ 13 2 i) = 2 ∧ zA σ 11 2 (zA σ 13 2 i) = zA σ 13 5 i))) → 0 ≤ zA σ 13 2 i → wpX2_isUseRight_57 i (zA σ 11 1 (zA σ 13 2 i)) s σ Q := by
    intro s hs hn
    have hr := (h.1 (zA σ 13 2 i) hn (by omega)).2.1
    have y : ((zA σ 13 0 i = 2 → zA σ 11 1 (zA σ 13 2 i) = 2) ∧ (zA σ 13 0 i = 7 ∨ zA σ 13 0 i = 8 → zA σ 11 1 (zA σ 13 2 i) ≠ 0) ∧ (zA σ 13 0 i = 9 ∨ zA σ 13 0 i = 11 → (zA σ 11 1 (zA σ 13 2 i) = 2 ∧ zA σ 11 2 (zA σ 13 2 i) = zA σ 13 5 i) ∨ zA σ 11 1 (zA σ 13 2 i) = 3) ∧ (zA σ 13 0 i = 10 → zA σ 11 1 (zA σ 13 2 i) = 2 ∧ zA σ 11 2 (zA σ 13 2 i) = zA σ 13 5 i) ∧ (zA σ 13 0 i = 12 → zA σ 11 1 (zA σ 13 2 i) = 2 ∨ zA σ 11 1 (zA σ 13 2 i) = 3)) → Q 1 σ := h1
    have n : ¬ ((zA σ 13 0 i = 2 → zA σ 11 1 (zA σ 13 2 i) = 2) ∧ (zA σ 13 0 i = 7 ∨ zA σ 13 0 i = 8 → zA σ 11 1 (zA σ 13 2 i) ≠ 0) ∧ (zA σ 13 0 i = 9 ∨ zA σ 13 0 i = 11 → (zA σ 11 1 (zA σ 13 2 i) = 2 ∧ zA σ 11 2 (zA σ 13 2 i) = zA σ 13 5 i) ∨ zA σ 11 1 (zA σ 13 2 i) = 3) ∧ (zA σ 13 0 i = 10 → zA σ 11 1 (zA σ 13 2 i) = 2 ∧ zA σ 11 2 (zA σ 13 2 i) = zA σ 13 5 i) ∧ (zA σ 13 0 i = 12 → zA σ 11 1 (zA σ 13 2 i) = 2 ∨ zA σ 11 1 (zA σ 13 2 i) = 3)) → Q 0 σ := h0 hn
    have f152 : zA σ 13 0 i = 9 ∨ zA σ 13 0 i = 11 → wpX2_isUseRight_152 (zA σ 11 1 (zA σ 13 2 i)) s σ Q := by
      intro t
      unfold wpX2_isUseRight_152 wpX2_isUseRight_162 wpX2_isUseRight_167
      exact ⟨by omega, fun _ => ⟨by decide, y (by omega)⟩, fun _ => ⟨by omega, fun _ => ⟨by decide, n (by omega)⟩, fun _ => ⟨by decide, y (by omega)⟩⟩⟩
    have f139 : zA σ 13 0 i = 7 ∨ zA σ 13 0 i = 8 → wpX2_isUseRight_139 (zA σ 11 1 (zA σ 13 2 i)) σ Q := by
      intro t
      unfold wpX2_isUseRight_139 wpX2_isUseRight_148
      exact ⟨by omega, fun _ => ⟨by decide, n (by omega)⟩, fun _ => ⟨by decide, y (by omega)⟩⟩
    unfold wpX2_isUseRight_57 wpX2_isUseRight_138 wpX2_isUseRight_184 wpX2_isUseRight_178 wpX2_isUseRight_183
    refine ⟨by omega, by omega, fun _ => ⟨by omega, fun _ => ⟨by decide, n (by omega)⟩, fun e => ⟨by decide, y (by omega)⟩⟩, fun n2 => ⟨fun _ => y (by omega), fun _ => ⟨fun _ => y (by omega), fun _ => ⟨fun _ => y (by omega), fun _ => ⟨fun _ => y (by omega), fun _ => ⟨fun e => f139 (Or.inl e), fun _ => ⟨fun e => f139 (Or.inr e), fun _ => ⟨fun e => f152 (Or.inl e), fun _ => ⟨fun e => ⟨by omega, ?_⟩, fun _ => ⟨fun e => f152 (Or.inr e), fun _ => ⟨fun _ => ⟨by omega, fun _ => ⟨by decide, y (by omega)⟩, fun _ => ⟨fun _ => ⟨by decide, n (by omega)⟩, fun _ => ⟨by decide, y (by omega)⟩⟩⟩, fun _ => y (by omega)⟩⟩⟩⟩⟩⟩⟩⟩⟩⟩⟩
    rcases hs with ⟨e1, e2, e3⟩ | ⟨e1, e2⟩
    · rw [e1]; exact y (by omega)
    · rw [e1]; exact n (by omega)
  unfold wpX2_isUseRight wpX2_isUseRight_56
  refine ⟨by omega, by omega, fun hn => ?_, fun hn => h1 ?_⟩
  · have hr := h.1 (zA σ 13 2 i) hn (by omega)
    exact ⟨by omega, by omega, fun q => f57 0 (Or.inr ⟨rfl, fun z => q z.1⟩) hn, fun q => ⟨by omega, by omega, fun q' => f57 0 (Or.inr ⟨rfl, fun z => q' z.2⟩) hn, fun q' => f57 1 (Or.inl ⟨rfl, q, q'⟩) hn⟩⟩
  · have t : zA σ 13 0 i = 4 ∨ zA σ 13 0 i = 5 ∨ zA σ 13 0 i = 6 := by
      by_cases z : zA σ 13 0 i = 4 ∨ zA σ 13 0 i = 5 ∨ zA σ 13 0 i = 6
      · exact z
      · exact absurd (i6 (by omega) (by omega) (by omega)) hn
    unfold uCc
    exact ⟨fun q => by omega, fun q => by omega, fun q => by omega, fun q => by omega, fun q => by omega⟩
/-- all names are right, as the walk sees it -/
def yOK (D : YD) : Prop := ¬ D.bad ∧ ∀ u : Int, 0 ≤ u → u < D.u.nu → uOK D (D.u.uk u) (D.u.un u) (D.u.us u)
theorem uCc_iff {σ : ZS} {D : YD} {i : Int} (h : LY σ) (dx : ∀ n : Int, 0 ≤ n → n < zI σ 11 5 → zA σ 11 1 n = D.so n ∧ (D.so n = 1 ∨ D.so n = 2 → zA σ 11 2 n = D.sg n) ∧ (D.so n = 1 → zA σ 11 3 n = D.al n)) (dg : DG σ (zI σ 13 7)) (hi : 0 ≤ i ∧ i < zI σ 13 7) : uCc σ i ↔ uOK D (iK (zA σ 13 0 i)) (zA σ 13 2 i) (yK σ (i + 1)).cur := by
  obtain ⟨i1, i2, i3, i4, i5, i6, i7, i8, i9, i10⟩ := h.it hi.1 hi.2
  have eg := dg i hi.1 hi.2
  unfold uCc uOK iK
  rw [← eg]
  by_cases hn : 0 ≤ zA σ 13 2 i
  · obtain ⟨e1, e2, -⟩ := dx (zA σ 13 2 i) hn i3.2
    have hc : zA σ 13 0 i = 2 ∨ zA σ 13 0 i = 7 ∨ zA σ 13 0 i = 8 ∨ zA σ 13 0 i = 9 ∨ zA σ 13 0 i = 11 ∨ zA σ 13 0 i = 10 ∨ zA σ 13 0 i = 12 ∨ (zA σ 13 0 i ≠ 2 ∧ zA σ 13 0 i ≠ 7 ∧ zA σ 13 0 i ≠ 8 ∧ zA σ 13 0 i ≠ 9 ∧ zA σ 13 0 i ≠ 11 ∧ zA σ 13 0 i ≠ 10 ∧ zA σ 13 0 i ≠ 12) := by omega
    have hr := (h.1 (zA σ 13 2 i) hn (by have := h.2.1.1; omega)).2.1
    rcases hc with z | z | z | z | z | z | z | z
    · rw [if_pos z]; omega
    · rw [if_neg (by omega), if_pos (by omega)]; omega
    · rw [if_neg (by omega), if_pos (by omega)]; omega
    · rw [if_neg (by omega), if_neg (by omega), if_pos (by omega)]; omega
    · rw [if_neg (by omega), if_neg (by omega), if_pos (by omega)]; omega
    · rw [if_neg (by omega), if_neg (by omega), if_neg (by omega), if_pos (by omega)]; omega
    · rw [if_neg (by omega), if_neg (by omega), if_neg (by omega), if_neg (by omega), if_pos (by omega)]; omega
    · rw [if_neg (by omega), if_neg (by omega), if_neg (by omega), if_neg (by omega), if_neg (by omega)]; omega
  · have t : zA σ 13 0 i = 4 ∨ zA σ 13 0 i = 5 ∨ zA σ 13 0 i = 6 := by
      by_cases z : zA σ 13 0 i = 4 ∨ zA σ 13 0 i = 5 ∨ zA σ 13 0 i = 6
      · exact z
      · exact absurd (i6 (by omega) (by omega) (by omega)) hn
    rw [if_neg (by omega), if_neg (by omega), if_neg (by omega), if_neg (by omega), if_neg (by omega)]
    omega
