/-! C: names are judged -/
def DJ (σ : ZS) : Prop := DIw σ ∧ (∀ i : Int, 0 ≤ i → i < zI σ 13 7 → zA σ 13 0 i = 0 ∨ zA σ 13 0 i = 2 ∨ zA σ 13 0 i = 3 ∨ ∃ j : Int, 0 ≤ j ∧ j < i ∧ zA σ 13 0 j = 0)
def LRg (σ : ZS) : Prop := ∀ s : Int, 0 ≤ s → s < 60 → (0 ≤ zA σ 15 2 s ∧ zA σ 15 2 s < 240) ∧ (0 ≤ zA σ 15 3 s ∧ zA σ 15 3 s ≤ 20000)
def RO (σ : ZS) : Prop := ∀ n : Int, 0 ≤ n → n < zI σ 11 5 → (zA σ 11 1 n = 0 → zA σ 11 2 n = -1) ∧ (zA σ 11 1 n = 1 → 0 ≤ zA σ 11 2 n ∧ zA σ 11 2 n < zI σ 15 4 ∧ al (zA σ 11 3 n)) ∧ (zA σ 11 1 n = 2 → -1 ≤ zA σ 11 2 n ∧ zA σ 11 2 n < zI σ 15 4 ∧ (zI σ 15 5 < 0 → 0 ≤ zA σ 11 2 n)) ∧ (zA σ 11 1 n = 3 → zA σ 11 2 n = -1)
def SN (σ : ZS) : Prop := ∀ s : Int, 0 ≤ s → s < zI σ 15 4 → (0 ≤ zA σ 15 2 s ∧ zA σ 15 2 s < zI σ 11 5) ∧ zA σ 11 1 (zA σ 15 2 s) = 1 ∧ zA σ 11 2 (zA σ 15 2 s) = s
def LY (σ : ZS) : Prop := NR σ ∧ NS σ ∧ DJ σ ∧ (0 ≤ zI σ 15 4 ∧ zI σ 15 4 ≤ 60) ∧ (-1 ≤ zI σ 15 5 ∧ zI σ 15 5 ≤ 480) ∧ (0 ≤ zI σ 11 6 → 0 ≤ zI σ 15 5) ∧ LRg σ ∧ RO σ ∧ SN σ
def CU (σ : ZS) (c i : Int) : Prop := (-1 ≤ c ∧ c < zI σ 15 4) ∧ (zI σ 15 5 < 0 → 0 ≤ c ∨ (zI σ 15 4 = 0 ∧ ∀ j : Int, 0 ≤ j → j < i → zA σ 13 0 j ≠ 0))
def DS (σ : ZS) (i : Int) : Prop := ∀ j : Int, 0 ≤ j → j < i → -1 ≤ zA σ 13 5 j ∧ zA σ 13 5 j < zI σ 15 4
theorem DJ.k {σ τ : ZS} (h : DJ σ) (e5 : zI τ 11 5 = zI σ 11 5) (e' : ob τ 13 = ob σ 13) : DJ τ := by
  have e3 := ob_I e'; have e4 := ob_A e'
  unfold DJ DIw; simp only [e5, e3, e4]; exact h
theorem LY.bl {σ : ZS} {v : Int} (h : LY σ) (v0 : 0 ≤ v) (v1 : v ≤ 480) : LY (zsI σ 15 5 v) := by
  obtain ⟨a1, a2, a3, a4, a5, a6, a7, a8, a9⟩ := h
  refine ⟨a1, a2, a3.k rfl (ob_i (by decide)), a4, ?_, fun _ => v0, a7, fun n n0 n1 => ?_, a9⟩
  · show -1 ≤ v ∧ v ≤ 480
    omega
  · obtain ⟨b0, b1, b2, b3⟩ := a8 n n0 n1
    refine ⟨b0, b1, fun e => ⟨(b2 e).1, (b2 e).2.1, fun q => ?_⟩, b3⟩
    have q' : v < 0 := q
    omega
theorem LY.it {σ : ZS} {i : Int} (h : LY σ) (i0 : 0 ≤ i) (i1 : i < zI σ 13 7) : ITw (zI σ 11 5) (zA σ 13 0 i) (zA σ 13 1 i) (zA σ 13 2 i) (zA σ 13 3 i) (zA σ 13 4 i) := h.2.2.1.1.2.1 i i0 i1
theorem LY.sz {σ : ZS} (h : LY σ) : 0 ≤ zI σ 13 7 ∧ zI σ 13 7 ≤ 248 := h.2.2.1.1.1
theorem c_blame {σ : ZS} {p : Int} {Q : ZS → Prop} (h : LY σ) (hp : 0 ≤ p ∧ p ≤ 480) (h0 : 0 ≤ zI σ 15 5 → Q σ) (hb : ∀ v : Int, 0 ≤ v → v ≤ 480 → Q (zsI σ 15 5 v)) : wpX2_blame p σ Q := by
  have a5 := h.2.2.2.2.1
  unfold wpX2_blame wpX2_blame_15 wpX2_blame_20
  exact ⟨by omega, fun _ => hb _ hp.1 hp.2, fun q => ⟨by omega, fun _ => h0 (by omega), fun _ => hb _ hp.1 hp.2⟩⟩
theorem c_mayDeclare {σ : ZS} {i : Int} {Q : Int → ZS → Prop} (h : LY σ) (hi : 0 ≤ i ∧ i < zI σ 13 7) (hn : 0 ≤ zA σ 13 2 i) (h1 : zA σ 11 1 (zA σ 13 2 i) = 0 → Q 1 σ) (h0 : 0 ≤ zI σ 15 5 → Q 0 σ) (hb : ∀ v : Int, 0 ≤ v → v ≤ 480 → Q 0 (zsI σ 15 5 v)) : wpX2_mayDeclare i σ Q := by
  have hz := h.sz
  obtain ⟨i1, i2, i3, i4, i5, i6, i7, i8, i9, i10⟩ := h.it hi.1 hi.2
  have hN := h.2.1.1
  have hc := h.2.1.2.1
  have hr := (h.1 (zA σ 13 2 i) hn (by omega)).2.1
  have hp := i7 hn
  unfold wpX2_mayDeclare wpX2_mayDeclare_43
  exact ⟨by omega, by omega, by omega, fun _ => c_blame h (by omega) h0 hb, fun e => ⟨by omega, by omega, fun _ => c_blame h (by omega) h0 hb, fun _ => h1 e⟩⟩
theorem c_openSegment {σ : ZS} {i c : Int} {Q : Int → ZS → Prop} (h : LY σ) (hi : 0 ≤ i ∧ i < zI σ 13 7) (ht : zA σ 13 0 i = 0) (hc : CU σ c i) (hQ : ∀ (x : Int) (τ : ZS), LY τ → CU τ x (i + 1) → ob τ 13 = ob σ 13 → kp [11, 15] σ τ → zI σ 15 4 ≤ zI τ 15 4 → Q x τ) : wpX2_openSegment i c σ Q := by
  have hz := h.sz
  have hit := h.it hi.1 hi.2
  obtain ⟨i1, i2, i3, i4, i5, i6, i7, i8, i9, i10⟩ := hit
  have hn : 0 ≤ zA σ 13 2 i := i6 (by omega) (by omega) (by omega)
  have hal := (i10 (Or.inl ht)).1 ht
  obtain ⟨a1, a2, a3, a4, a5, a6, a7, a8, a9⟩ := h
  have h : LY σ := ⟨a1, a2, a3, a4, a5, a6, a7, a8, a9⟩
  have hN := a2.1
  have hr := a1 (zA σ 13 2 i) hn (by omega)
  obtain ⟨b0, b1, b2, b3⟩ := a8 (zA σ 13 2 i) hn (by omega)
  obtain ⟨c1, c2⟩ := hc
  -- opened
  have key : ∀ τ : ZS, zA σ 11 1 (zA σ 13 2 i) = 0 → zI σ 15 4 < 60 → kp [11, 15] σ τ → zA τ 11 0 = zA σ 11 0 → zA τ 11 1 = zu (zA σ 11 1) (zA σ 13 2 i) 1 → zA τ 11 2 = zu (zA σ 11 2) (zA σ 13 2 i) (zI σ 15 4) → zA τ 11 3 = zu (zA σ 11 3) (zA σ 13 2 i) (zA σ 13 1 i) → zA τ 11 4 = zA σ 11 4 → zI τ 11 5 = zI σ 11 5 → zI τ 11 6 = zI σ 11 6 → zA τ 15 2 = zu (zA σ 15 2) (zI σ 15 4) (zA σ 13 2 i) → zA τ 15 3 = zA σ 15 3 → zI τ 15 4 = zI σ 15 4 + 1 → zI τ 15 5 = zI σ 15 5 → Q (zI σ 15 4 + 1 - 1) τ := by
    intro τ r0 lt k e0 e1 e2 e3 e4 e5 e6 f2 f3 f4 f5
    have e13 := k 13 (by decide)
    refine hQ _ τ ⟨fun n n0 n1 => ?_, ?_, a3.k e5 e13, by omega, by omega, by rw [e6, f5]; exact a6, fun s s0 s1 => ?_, fun n n0 n1 => ?_, fun s s0 s1 => ?_⟩ ⟨by omega, fun _ => Or.inl (by omega)⟩ e13 k (by omega)
    · obtain ⟨x0, x1, x2, x3, x4⟩ := a1 n n0 n1
      rw [e0, e1, e2, e3, e4]
      by_cases e : n = zA σ 13 2 i
      · rw [e, pu_eq, pu_eq, pu_eq]
        rw [e] at x0 x4
        have : zA σ 13 1 i ≤ 16 := by unfold al at hal; omega
        exact ⟨x0, by decide, by omega, by omega, x4⟩
      · rw [pu_ne e, pu_ne e, pu_ne e]; exact ⟨x0, x1, x2, x3, x4⟩
    · unfold NS; rw [e5, e6]; exact a2
    · rw [f2, f3]
      refine ⟨?_, (a7 s s0 s1).2⟩
      by_cases e : s = zI σ 15 4
      · rw [e, pu_eq]; omega
      · rw [pu_ne e]; exact (a7 s s0 s1).1
    · rw [e5] at n1
      rw [e1, e2, e3, f4, f5]
      by_cases e : n = zA σ 13 2 i
      · rw [e, pu_eq, pu_eq, pu_eq]
        exact ⟨fun q => absurd q (by decide), fun _ => ⟨a4.1, by omega, hal⟩, fun q => absurd q (by decide), fun q => absurd q (by decide)⟩
      · rw [pu_ne e, pu_ne e, pu_ne e]
        obtain ⟨y0, y1, y2, y3⟩ := a8 n n0 n1
        exact ⟨y0, fun q => by obtain ⟨z1, z2, z3⟩ := y1 q; exact ⟨z1, by omega, z3⟩, fun q => by obtain ⟨z1, z2, z3⟩ := y2 q; exact ⟨z1, by omega, z3⟩, y3⟩
    · rw [f4] at s1
      rw [f2, e5, e1, e2]
      by_cases e : s = zI σ 15 4
      · rw [e, pu_eq, pu_eq, pu_eq]; exact ⟨by omega, rfl, rfl⟩
      · rw [pu_ne e]
        obtain ⟨z1, z2, z3⟩ := a9 s s0 (by omega)
        have ne : zA σ 15 2 s ≠ zA σ 13 2 i := fun q => by rw [q] at z2; omega
        rw [pu_ne ne, pu_ne ne]; exact ⟨z1, z2, z3⟩
  have stay : (zI σ 15 5 < 0 → 0 ≤ c) → Q c σ := fun q => hQ c σ h ⟨c1, fun w => Or.inl (q w)⟩ rfl kp.rf (Int.le_refl _)
  have f58 : wpX2_openSegment_58 i c (zA σ 13 2 i) (zA σ 13 1 i) σ Q := by
    unfold wpX2_openSegment_58 wpX2_openSegment_75
    refine c_mayDeclare h hi hn (fun r0 => ⟨by decide, fun q => absurd q (by decide), fun _ => ⟨by omega, fun lt => ⟨by omega, by omega, ?_, ?_⟩, fun ge => stay (fun w => ?_)⟩⟩) (fun w => ⟨by decide, fun _ => stay (fun q => absurd q (by omega)), fun q => absurd rfl q⟩) (fun v v0 v1 => ⟨by decide, fun _ => ?_, fun q => absurd rfl q⟩)
    · show 0 ≤ zI σ 15 4 ∧ zI σ 15 4 < 60
      omega
    · exact key _ r0 lt (((((kp.rf.ta (by decide)).ta (by decide)).ta (by decide)).ta (by decide)).ti (by decide)) rfl rfl rfl rfl rfl rfl rfl rfl rfl rfl rfl
    · rcases c2 w with q | ⟨q, -⟩
      · exact q
      · omega
    · refine hQ c _ (h.bl v0 v1) ⟨c1, fun w => ?_⟩ (ob_i (by decide)) (kp.i (by decide)) (Int.le_refl _)
      have w' : v < 0 := w
      omega
  unfold wpX2_openSegment
  refine ⟨by omega, by omega, by omega, fun _ => f58, fun e1 => ⟨by omega, by omega, fun _ => f58, fun _ => ?_⟩⟩
  obtain ⟨z1, z2, z3⟩ := b1 e1
  exact hQ _ σ h ⟨by omega, fun _ => Or.inl z1⟩ rfl kp.rf (Int.le_refl _)
theorem c_declare {σ : ZS} {i r c : Int} {Q : ZS → Prop} (h : LY σ) (hi : 0 ≤ i ∧ i < zI σ 13 7) (hn : 0 ≤ zA σ 13 2 i) (hr : (r = 2 ∧ (-1 ≤ c ∧ c < zI σ 15 4) ∧ (zI σ 15 5 < 0 → 0 ≤ c)) ∨ (r = 3 ∧ c = -1)) (hQ : ∀ τ : ZS, LY τ → ob τ 13 = ob σ 13 → kp [11, 15] σ τ → zI τ 15 4 = zI σ 15 4 → (zI τ 15 5 < 0 → zI σ 15 5 < 0) → Q τ) : wpX2_declare i r c σ Q := by
  have hz := h.sz
  have hit := h.it hi.1 hi.2
  obtain ⟨i1, i2, i3, i4, i5, i6, i7, i8, i9, i10⟩ := hit
  obtain ⟨a1, a2, a3, a4, a5, a6, a7, a8, a9⟩ := h
  have h : LY σ := ⟨a1, a2, a3, a4, a5, a6, a7, a8, a9⟩
  have hN := a2.1
  have key : ∀ τ : ZS, zA σ 11 1 (zA σ 13 2 i) = 0 → kp [11, 15] σ τ → ob τ 15 = ob σ 15 → zA τ 11 0 = zA σ 11 0 → zA τ 11 1 = zu (zA σ 11 1) (zA σ 13 2 i) r → zA τ 11 2 = zu (zA σ 11 2) (zA σ 13 2 i) c → zA τ 11 3 = zA σ 11 3 → zA τ 11 4 = zA σ 11 4 → zI τ 11 5 = zI σ 11 5 → zI τ 11 6 = zI σ 11 6 → Q τ := by
    intro τ r0 k e15 e0 e1 e2 e3 e4 e5 e6
    have e13 := k 13 (by decide)
    have g1 := ob_I e15; have g2 := ob_A e15
    refine hQ τ ⟨fun n n0 n1 => ?_, ?_, a3.k e5 e13, by rw [g1 4]; exact a4, by rw [g1 5]; exact a5, by rw [e6, g1 5]; exact a6, ?_, fun n n0 n1 => ?_, fun s s0 s1 => ?_⟩ e13 k (g1 4) (fun q => by rw [g1 5] at q; exact q)
    · obtain ⟨x0, x1, x2, x3, x4⟩ := a1 n n0 n1
      rw [e0, e1, e2, e3, e4]
      by_cases e : n = zA σ 13 2 i
      · rw [e, pu_eq, pu_eq]
        rw [e] at x0 x3 x4
        exact ⟨x0, by omega, by omega, x3, x4⟩
      · rw [pu_ne e, pu_ne e]; exact ⟨x0, x1, x2, x3, x4⟩
    · unfold NS; rw [e5, e6]; exact a2
    · unfold LRg; rw [g2 2, g2 3]; exact a7
    · rw [e5] at n1
      rw [e1, e2, e3, g1 4, g1 5]
      by_cases e : n = zA σ 13 2 i
      · rw [e, pu_eq, pu_eq]
        rcases hr with ⟨q1, q2, q3⟩ | ⟨q1, q2⟩
        · exact ⟨fun q => by omega, fun q => by omega, fun _ => ⟨q2.1, q2.2, q3⟩, fun q => by omega⟩
        · exact ⟨fun q => by omega, fun q => by omega, fun q => by omega, fun _ => q2⟩
      · rw [pu_ne e, pu_ne e]; exact a8 n n0 n1
    · rw [g1 4] at s1
      rw [g2 2, e5, e1, e2]
      obtain ⟨z1, z2, z3⟩ := a9 s s0 s1
      have ne : zA σ 15 2 s ≠ zA σ 13 2 i := fun q => by rw [q] at z2; omega
      rw [pu_ne ne, pu_ne ne]; exact ⟨z1, z2, z3⟩
  unfold wpX2_declare wpX2_declare_26 wpX5_make
  refine c_mayDeclare h hi hn (fun r0 => ⟨by decide, fun q => absurd q (by decide), fun _ => ⟨by omega, by omega, key _ r0 ((kp.rf.ta (by decide)).ta (by decide)) ((ob_a (by decide)).trans (ob_a (by decide))) rfl rfl rfl rfl rfl rfl rfl⟩⟩) (fun w => ⟨by decide, fun _ => hQ σ h rfl kp.rf rfl (fun q => q), fun q => absurd rfl q⟩) (fun v v0 v1 => ⟨by decide, fun _ => hQ _ (h.bl v0 v1) (ob_i (by decide)) (kp.i (by decide)) rfl (fun q => ?_), fun q => absurd rfl q⟩)
  have q' : v < 0 := q
  omega
/-- the segment of an item -/
theorem LY.s5 {σ : ZS} {i v : Int} (h : LY σ) : LY (zsA σ 13 5 i v) := h
theorem c_declareAll {σ : ZS} {Q : ZS → Prop} (h1 : NR σ) (h2 : NS σ) (h3 : NF σ) (h4 : DJ σ) (h5 : -1 ≤ zI σ 15 5 ∧ zI σ 15 5 ≤ 480) (h6 : 0 ≤ zI σ 11 6 → 0 ≤ zI σ 15 5) (h7 : LRg σ) (hQ : ∀ τ : ZS, LY τ → DS τ (zI τ 13 7) → kp [11, 13, 15] σ τ → Q τ) : wpX2_declareAll σ Q := by
  unfold wpX2_declareAll wpX2_declareAll_9
  refine lfp2_ind (fun _ v _ => (248 - v).toNat) (fun c v τ => LY τ ∧ CU τ c v ∧ DS τ v ∧ kp [11, 13, 15] σ τ ∧ (0 ≤ v ∧ v ≤ zI τ 13 7)) (fun K c v τ hI ih => ?_) ⟨⟨h1, h2, h4.k rfl (ob_i (by decide)), (show (0 : Int) ≤ 0 ∧ (0 : Int) ≤ 60 by decide), h5, h6, h7, fun n n0 n1 => ?_, fun s s0 s1 => ?_⟩, ⟨(show (-1 : Int) ≤ -1 ∧ (-1 : Int) < 0 by decide), fun _ => Or.inr ⟨rfl, fun j j0 j1 => absurd j0 (by omega)⟩⟩, fun j j0 j1 => absurd j0 (by omega), kp.i (by decide), by decide, h4.1.1.1⟩
  · obtain ⟨ly, cu, ds, k, v0, v1⟩ := hI
    have hz := ly.sz
    -- on to the next
    have next : ∀ (x : Int) (υ : ZS), v < zI τ 13 7 → LY υ → CU υ x (v + 1) → ob υ 13 = ob τ 13 → kp [11, 15] τ υ → zI τ 15 4 ≤ zI υ 15 4 → wpX2_declareAll_90 K x v υ Q := by
      intro x υ lt uy uc e13 uk us
      unfold wpX2_declareAll_90
      refine ⟨by omega, ih _ _ _ ⟨uy.s5, uc, fun j j0 j1 => ?_, (k.tr (uk.up (by decide))).ta (by decide), by omega, ?_⟩ (by omega)⟩
      · show -1 ≤ zu (zA υ 13 5) v x j ∧ zu (zA υ 13 5) v x j < zI υ 15 4
        by_cases e : j = v
        · rw [e, pu_eq]; exact uc.1
        · rw [pu_ne e, ob_A e13 5]
          have := ds j j0 (by omega)
          omega
      · show v + 1 ≤ zI υ 13 7
        rw [ob_I e13 7]; omega
    unfold wpbX2_declareAll_9
    refine ⟨by omega, by omega, fun q => hQ τ ly (by rw [show zI τ 13 7 = v by omega]; exact ds) k, fun lt => ?_⟩
    have it := ly.it v0 (by omega)
    obtain ⟨i1, i2, i3, i4, i5, i6, i7, i8, i9, i10⟩ := it
    obtain ⟨c1, c2⟩ := cu
    have keep : zA τ 13 0 v ≠ 0 → CU τ c (v + 1) := by
      intro ne
      refine ⟨c1, fun w => ?_⟩
      rcases c2 w with q | ⟨q, r⟩
      · exact Or.inl q
      · refine Or.inr ⟨q, fun j j0 j1 => ?_⟩
        by_cases e : j = v
        · rw [e]; exact ne
        · exact r j j0 (by omega)
    have dec : ∀ υ : ZS, zA τ 13 0 v ≠ 0 → LY υ → ob υ 13 = ob τ 13 → kp [11, 15] τ υ → zI υ 15 4 = zI τ 15 4 → (zI υ 15 5 < 0 → zI τ 15 5 < 0) → wpX2_declareAll_90 K c v υ Q := by
      intro υ ne uy e13 uk us uw
      obtain ⟨d1, d2⟩ := keep ne
      refine next c υ (by omega) uy ⟨by rw [us]; exact d1, fun w => ?_⟩ e13 uk (by omega)
      rw [us, ob_A e13 0]; exact d2 (uw w)
    have same : zA τ 13 0 v ≠ 0 → wpX2_declareAll_90 K c v τ Q := fun ne => next c τ (by omega) ly (keep ne) rfl kp.rf (Int.le_refl _)
    refine ⟨by omega, by omega, fun e0 => c_openSegment ly ⟨v0, by omega⟩ e0 ⟨c1, c2⟩ (fun x υ uy uc e13 uk us => next x υ (by omega) uy uc e13 uk us), fun n0 => ⟨fun e1 => ?_, fun _ => ⟨fun _ => same n0, fun _ => ⟨fun e3 => ?_, fun _ => same n0⟩⟩⟩⟩
    · refine c_declare ly ⟨v0, by omega⟩ (i6 (by omega) (by omega) (by omega)) (Or.inl ⟨rfl, c1, fun w => ?_⟩) (fun υ uy e13 uk us uw => dec υ n0 uy e13 uk us uw)
      rcases c2 w with q | ⟨q, r⟩
      · exact q
      · rcases ly.2.2.1.2 v v0 (by omega) with z | z | z | ⟨j, j0, j1, j2⟩
        · omega
        · omega
        · omega
        · exact absurd j2 (r j j0 j1)
    · exact c_declare ly ⟨v0, by omega⟩ (i6 (by omega) (by omega) (by omega)) (Or.inr ⟨rfl, rfl⟩) (fun υ uy e13 uk us uw => dec υ n0 uy e13 uk us uw)
  · obtain ⟨z1, z2⟩ := h3 n n0 n1
    have z1' : zA (zsI σ 15 4 0) 11 1 n = 0 := z1
    rw [z1']
    exact ⟨fun _ => z2, fun q => absurd q (by decide), fun q => absurd q (by decide), fun q => absurd q (by decide)⟩
  · have s1' : s < 0 := s1
    omega
def UR (σ : ZS) (i : Int) : Prop := ∀ j : Int, 0 ≤ j → j < i → zA σ 13 0 j = 2 → zA σ 11 1 (zA σ 13 2 j) = 2
theorem c_isUseRight {σ : ZS} {i : Int} {Q : Int → ZS → Prop} (h : LY σ) (hd : DS σ (zI σ 13 7)) (hi : 0 ≤ i ∧ i < zI σ 13 7) (h1 : (zA σ 13 0 i = 2 → zA σ 11 1 (zA σ 13 2 i) = 2) → Q 1 σ) (h0 : 0 ≤ zA σ 13 2 i → Q 0 σ) : wpX2_isUseRight i σ Q := by
  have hz := h.sz
  have hs := hd i hi.1 hi.2
  obtain ⟨i1, i2, i3, i4, i5, i6, i7, i8, i9, i10⟩ := h.it hi.1 hi.2
  have hN := h.2.1.1
  have a4 := h.2.2.2.1
  have f57 : ∀ s : Int, (0 ≤ s ∧ s ≤ 1) → 0 ≤ zA σ 13 2 i → wpX2_isUseRight_57 i (zA σ 11 1 (zA σ 13 2 i)) s σ Q := by
    intro s hs hn
    have hr := (h.1 (zA σ 13 2 i) hn (by omega)).2.1
    have y : zA σ 13 0 i ≠ 2 → Q 1 σ := fun n => h1 (fun q => absurd q n)
    have f152 : zA σ 13 0 i ≠ 2 → wpX2_isUseRight_152 (zA σ 11 1 (zA σ 13 2 i)) s σ Q := by
      intro n
      unfold wpX2_isUseRight_152 wpX2_isUseRight_162 wpX2_isUseRight_167
      exact ⟨by omega, fun _ => ⟨by decide, y n⟩, fun _ => ⟨by omega, fun _ => ⟨by decide, h0 hn⟩, fun _ => ⟨by decide, y n⟩⟩⟩
    have f139 : zA σ 13 0 i ≠ 2 → wpX2_isUseRight_139 (zA σ 11 1 (zA σ 13 2 i)) σ Q := by
      intro n
      unfold wpX2_isUseRight_139 wpX2_isUseRight_148
      exact ⟨by omega, fun _ => ⟨by decide, h0 hn⟩, fun _ => ⟨by decide, y n⟩⟩
    unfold wpX2_isUseRight_57 wpX2_isUseRight_138 wpX2_isUseRight_184 wpX2_isUseRight_178 wpX2_isUseRight_183
    refine ⟨by omega, by omega, fun _ => ⟨by omega, fun _ => ⟨by decide, h0 hn⟩, fun e => ⟨by decide, h1 (fun _ => e)⟩⟩, fun n2 => ⟨fun _ => y n2, fun _ => ⟨fun _ => y n2, fun _ => ⟨fun _ => y n2, fun _ => ⟨fun _ => y n2, fun _ => ⟨fun _ => f139 n2, fun _ => ⟨fun _ => f139 n2, fun _ => ⟨fun _ => f152 n2, fun _ => ⟨fun _ => ⟨hs, ?_⟩, fun _ => ⟨fun _ => f152 n2, fun _ => ⟨fun _ => ⟨by omega, fun _ => ⟨by decide, y n2⟩, fun _ => ⟨fun _ => ⟨by decide, h0 hn⟩, fun _ => ⟨by decide, y n2⟩⟩⟩, fun _ => y n2⟩⟩⟩⟩⟩⟩⟩⟩⟩⟩⟩
    rcases (by omega : s = 0 ∨ s = 1) with e | e
    · rw [e]; exact h0 hn
    · rw [e]; exact y n2
  unfold wpX2_isUseRight wpX2_isUseRight_56
  refine ⟨by omega, by omega, fun hn => ?_, fun hn => h1 (fun q => absurd (i6 (by omega) (by omega) (by omega)) hn)⟩
  have hr := h.1 (zA σ 13 2 i) hn (by omega)
  exact ⟨by omega, by omega, fun _ => f57 0 (by decide) hn, fun _ => ⟨by omega, by omega, fun _ => f57 0 (by decide) hn, fun _ => f57 1 (by decide) hn⟩⟩
theorem c_firstWrong {σ : ZS} {Q : Int → ZS → Prop} (h1 : NR σ) (h2 : NS σ) (h3 : NF σ) (h4 : DJ σ) (h7 : LRg σ) (hQ : ∀ (x : Int) (τ : ZS), LY τ → DS τ (zI τ 13 7) → x = zI τ 15 5 → (x < 0 → UR τ (zI τ 13 7)) → kp [11, 13, 15] σ τ → Q x τ) : wpX2_firstWrong σ Q := by
  unfold wpX2_firstWrong
  refine c_declareAll h1 h2 h3 (h4.k rfl (ob_i (by decide))) ?_ (fun q => q) h7 (fun τ0 ly0 ds0 k0 => ?_)
  · have := h2.2.1
    show -1 ≤ zI σ 11 6 ∧ zI σ 11 6 ≤ 480
    omega
  unfold wpX2_firstWrong_17
  refine lfp1_ind (fun v _ => (248 - v).toNat) (fun v τ => LY τ ∧ DS τ (zI τ 13 7) ∧ (zI τ 15 5 < 0 → UR τ v) ∧ kp [11, 13, 15] σ τ ∧ (0 ≤ v ∧ v ≤ zI τ 13 7)) (fun K v τ hI ih => ?_) ⟨ly0, ds0, fun _ j j0 j1 => absurd j0 (by omega), (kp.i (by decide)).tr k0, by decide, ly0.sz.1⟩
  obtain ⟨ly, ds, ur, k, v0, v1⟩ := hI
  have hz := ly.sz
  unfold wpbX2_firstWrong_17 wpX2_firstWrong_49
  refine ⟨by omega, by omega, fun q => hQ _ τ ly ds rfl (fun w => by rw [show zI τ 13 7 = v by omega]; exact ur w) k, fun lt => c_isUseRight ly ds ⟨v0, by omega⟩ (fun u => ⟨by decide, fun _ => ih _ _ ⟨ly, ds, fun w j j0 j1 => ?_, k, by omega, by omega⟩ (by omega), fun q => absurd q (by decide)⟩) (fun hn => ⟨by decide, fun q => absurd rfl q, fun _ => ⟨by omega, ?_⟩⟩)⟩
  · by_cases e : j = v
    · rw [e]; exact u
    · exact ur w j j0 (by omega)
  · obtain ⟨i1, i2, i3, i4, i5, i6, i7, i8, i9, i10⟩ := ly.it v0 (show v < zI τ 13 7 by omega)
    have hp := i7 hn
    refine c_blame ly (by omega) (fun w => ih _ _ ⟨ly, ds, fun q => absurd q (by omega), k, by omega, by omega⟩ (by omega)) (fun w w0 w1 => ih _ _ ⟨ly.bl w0 w1, ds, fun q => ?_, k.ti (by decide), ?_⟩ (by omega))
    · have q' : w < 0 := q
      omega
    · show 0 ≤ v + 1 ∧ v + 1 ≤ zI τ 13 7
      omega
