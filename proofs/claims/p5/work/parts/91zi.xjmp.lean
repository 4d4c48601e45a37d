/-! X: the class sizes its jumps, exactly -/
/-- what sizing leaves alone -/
def Fz (σ τ : ZS) : Prop := (∀ f : Nat, zI τ 11 f = zI σ 11 f) ∧ (∀ f : Nat, zI τ 13 f = zI σ 13 f) ∧ (∀ f : Nat, zI τ 15 f = zI σ 15 f) ∧ (∀ f : Nat, f ≠ 4 → zA τ 11 f = zA σ 11 f) ∧ (∀ f : Nat, f ≠ 1 → f ≠ 6 → zA τ 13 f = zA σ 13 f) ∧ (∀ f : Nat, f ≠ 3 → zA τ 15 f = zA σ 15 f)
theorem Fz.rf {σ : ZS} : Fz σ σ := ⟨fun _ => rfl, fun _ => rfl, fun _ => rfl, fun _ _ => rfl, fun _ _ _ => rfl, fun _ _ => rfl⟩
theorem Fz.tr {σ τ υ : ZS} (h : Fz σ τ) (k : Fz τ υ) : Fz σ υ := ⟨fun f => (k.1 f).trans (h.1 f), fun f => (k.2.1 f).trans (h.2.1 f), fun f => (k.2.2.1 f).trans (h.2.2.1 f), fun f e => (k.2.2.2.1 f e).trans (h.2.2.2.1 f e), fun f e e' => (k.2.2.2.2.1 f e e').trans (h.2.2.2.2.1 f e e'), fun f e => (k.2.2.2.2.2 f e).trans (h.2.2.2.2.2 f e)⟩
theorem Fz.a6 {σ : ZS} {i v : Int} : Fz σ (zsA σ 13 6 i v) := ⟨fun _ => rfl, fun _ => rfl, fun _ => rfl, fun _ _ => rfl, fun f _ e => zA_f e, fun _ _ => rfl⟩
theorem Fz.a1 {σ : ZS} {i v : Int} : Fz σ (zsA σ 13 1 i v) := ⟨fun _ => rfl, fun _ => rfl, fun _ => rfl, fun _ _ => rfl, fun f e _ => zA_f e, fun _ _ => rfl⟩
theorem Fz.a3 {σ : ZS} {i v : Int} : Fz σ (zsA σ 15 3 i v) := ⟨fun _ => rfl, fun _ => rfl, fun _ => rfl, fun _ _ => rfl, fun _ _ _ => rfl, fun f e => zA_f e⟩
theorem Fz.f3 {σ : ZS} {k : Int → Int} : Fz σ (zsF σ 15 3 k) := ⟨fun _ => rfl, fun _ => rfl, fun _ => rfl, fun _ _ => rfl, fun _ _ _ => rfl, fun f e => zA_Ff e⟩
theorem Fz.a4 {σ : ZS} {i v : Int} : Fz σ (zsA σ 11 4 i v) := ⟨fun _ => rfl, fun _ => rfl, fun _ => rfl, fun f e => zA_f e, fun _ _ _ => rfl, fun _ _ => rfl⟩
/-- the items are a, b, c, in segments g -/
def ZX (a b c g : Int → Int) (σ : ZS) : Prop := zA σ 13 0 = a ∧ zA σ 13 2 = c ∧ (∀ j : Int, 0 ≤ j → j < zI σ 13 7 → zA σ 13 5 j = g j) ∧ (∀ j : Int, 0 ≤ j → j < zI σ 13 7 → a j ≠ 9 → zA σ 13 1 j = b j)
/-- the jumps that are near -/
def xF (σ : ZS) : Int → Int := fun j => if zA σ 13 1 j = 2 then 0 else 1
theorem xF_eq {σ τ : ZS} (h : zA τ 13 1 = zA σ 13 1) : xF τ = xF σ := by unfold xF; rw [h]
theorem ZX.k {a b c g : Int → Int} {σ τ : ZS} (h : ZX a b c g σ) (f : Fz σ τ) (e1 : zA τ 13 1 = zA σ 13 1) : ZX a b c g τ := by
  obtain ⟨h0, h2, h5, h1⟩ := h
  exact ⟨(f.2.2.2.2.1 0 (by decide) (by decide)).trans h0, (f.2.2.2.2.1 2 (by decide) (by decide)).trans h2, by rw [f.2.1 7, f.2.2.2.2.1 5 (by decide) (by decide)]; exact h5, by rw [f.2.1 7, e1]; exact h1⟩
theorem x_bytesOf {a b c g : Int → Int} {σ : ZS} {i : Int} {Q : Int → ZS → Prop} (h : LY σ) (hx : ZX a b c g σ) (hi : 0 ≤ i ∧ i < zI σ 13 7) (hQ : (0 ≤ sI a b (xF σ) i ∧ sI a b (xF σ) i ≤ 64) → Q (sI a b (xF σ) i) σ) : wpX0_bytesOf i σ Q := by
  have hz := h.sz
  obtain ⟨i1, i2, i3, i4, i5, i6, i7, i8, i9, i10⟩ := h.it hi.1 hi.2
  obtain ⟨h0, h2, h5, h1⟩ := hx
  have hv := h1 i hi.1 hi.2
  have e0 : zA σ 13 0 i = a i := by rw [h0]
  have key : ∀ v : Int, ((a i = 4 ∧ v = 1) ∨ (a i = 5 ∧ v = zA σ 13 1 i) ∨ (a i = 9 ∧ v = zA σ 13 1 i) ∨ ((a i = 6 ∨ a i = 7 ∨ a i = 8 ∨ a i = 10) ∧ v = 2) ∨ (a i = 11 ∧ v = 3) ∨ (a i = 12 ∧ v = 5) ∨ ((a i ≠ 4 ∧ a i ≠ 5 ∧ a i ≠ 6 ∧ a i ≠ 7 ∧ a i ≠ 8 ∧ a i ≠ 9 ∧ a i ≠ 10 ∧ a i ≠ 11 ∧ a i ≠ 12) ∧ v = 0)) → Q v σ := by
    intro v hh
    have : sI a b (xF σ) i = v := by
      unfold sI xF
      rcases hh with ⟨t, e⟩ | ⟨t, e⟩ | ⟨t, e⟩ | ⟨t, e⟩ | ⟨t, e⟩ | ⟨t, e⟩ | ⟨t, e⟩
      · rw [if_pos t, e]
      · rw [if_neg (by omega), if_pos t, e, hv (by omega)]
      · have := i9 (by omega)
        rw [if_neg (by omega), if_neg (by omega), if_pos t]
        by_cases q : zA σ 13 1 i = 2
        · rw [if_pos q, if_pos rfl]; omega
        · rw [if_neg q, if_neg (by decide)]; omega
      · rw [if_neg (by omega), if_neg (by omega), if_neg (by omega), if_pos t, e]
      · rw [if_neg (by omega), if_neg (by omega), if_neg (by omega), if_neg (by omega), if_pos t, e]
      · rw [if_neg (by omega), if_neg (by omega), if_neg (by omega), if_neg (by omega), if_neg (by omega), if_pos t, e]
      · rw [if_neg (by omega), if_neg (by omega), if_neg (by omega), if_neg (by omega), if_neg (by omega), if_neg (by omega), e]
    rw [← this]
    refine hQ ?_
    rw [this]
    rcases hh with ⟨t, e⟩ | ⟨t, e⟩ | ⟨t, e⟩ | ⟨t, e⟩ | ⟨t, e⟩ | ⟨t, e⟩ | ⟨t, e⟩
    · omega
    · have := i8 (by omega); omega
    · have := i9 (by omega); omega
    · omega
    · omega
    · omega
    · omega
  unfold wpX0_bytesOf wpX0_bytesOf_58 wpX0_bytesOf_65
  rw [e0] at i1 ⊢
  exact ⟨by omega, by omega, fun _ => key _ (by omega), fun _ => ⟨fun e => ⟨by omega, key _ (by omega)⟩, fun _ => ⟨fun _ => key _ (by omega), fun _ => ⟨fun _ => key _ (by omega), fun _ => ⟨fun _ => key _ (by omega), fun _ => ⟨fun e => ⟨by omega, key _ (by omega)⟩, fun _ => ⟨fun _ => key _ (by omega), fun _ => ⟨fun _ => key _ (by omega), fun _ => ⟨fun _ => key _ (by omega), fun _ => key _ (by omega)⟩⟩⟩⟩⟩⟩⟩⟩⟩
/-- measured, up to item N -/
def Mz (a b c g X : Int → Int) (N : Int) (τ : ZS) : Prop := (∀ s : Int, 0 ≤ s → s < 60 → zA τ 15 3 s = oS a b g X s N.toNat) ∧ (∀ i : Int, 0 ≤ i → i < N → 0 ≤ g i → zA τ 13 6 i = oS a b g X (g i) i.toNat) ∧ (∀ n : Int, 0 ≤ lI a c n N.toNat → 0 ≤ g (lI a c n N.toNat) → zA τ 11 4 n = oS a b g X (g (lI a c n N.toNat)) (lI a c n N.toNat).toNat)
theorem x_measure {a b c g : Int → Int} {σ : ZS} {Q : ZS → Prop} (h : LZ σ) (hx : ZX a b c g σ) (hQ : ∀ τ : ZS, LZ τ → kp [11, 13, 15] σ τ → Fz σ τ → zA τ 13 1 = zA σ 13 1 → Mz a b c g (xF σ) (zI σ 13 7) τ → Q τ) : wpX2_measure σ Q := by
  unfold wpX2_measure wpX2_measure_10
  refine c_fill15_3 (fun k hk => ?_)
  refine lfp1_ind (fun v _ => (248 - v).toNat) (fun v τ => LZ τ ∧ kp [11, 13, 15] σ τ ∧ (∀ s : Int, 0 ≤ s → s < 60 → 0 ≤ zA τ 15 3 s ∧ zA τ 15 3 s ≤ 64 * v) ∧ (0 ≤ v ∧ v ≤ zI τ 13 7) ∧ Fz σ τ ∧ zA τ 13 1 = zA σ 13 1 ∧ Mz a b c g (xF σ) v τ) (fun K v τ hI ih => ?_) ⟨h.f3 (fun s s0 s1 => by rw [hk s s0 s1]; decide), kp.f (by decide), fun s s0 s1 => ?_, ⟨by decide, h.1.sz.1⟩, Fz.f3, rfl, ⟨fun s s0 s1 => ?_, fun i i0 i1 => absurd i0 (by omega), fun n n0 => absurd (show (0 : Int) ≤ -1 from n0) (by decide)⟩⟩
  · obtain ⟨lz, kk, sz, ⟨v0, v1⟩, fz, e1, mz⟩ := hI
    have hz := lz.1.sz
    have a4 := lz.1.2.2.2.1
    have hN := lz.1.2.1.1
    have zx := hx.k fz e1
    have xf := xF_eq e1
    have e7 : zI τ 13 7 = zI σ 13 7 := fz.2.1 7
    obtain ⟨z0, z2, z5, -⟩ := zx
    obtain ⟨m1, m2, m3⟩ := mz
    unfold wpbX2_measure_10 wpX2_measure_106
    refine ⟨by omega, by omega, fun q => hQ τ lz kk fz e1 (by rw [← e7, show zI τ 13 7 = v by omega]; exact ⟨m1, m2, m3⟩), fun lt => ?_⟩
    have hs := lz.2.1 v v0 (by omega)
    have z5v := z5 v v0 (by omega)
    rw [z5v] at hs ⊢
    have ev : (v + 1).toNat = v.toNat + 1 := by omega
    have evv : ((v.toNat : Nat) : Int) = v := by omega
    have os : ∀ s : Int, oS a b g (xF σ) s (v + 1).toNat = oS a b g (xF σ) s v.toNat + (if g v = s then sI a b (xF σ) v else 0) := by
      intro s
      rw [ev]
      show oS a b g (xF σ) s v.toNat + (if g (v.toNat : Int) = s then sI a b (xF σ) (v.toNat : Int) else 0) = _
      rw [evv]
    have ls : ∀ n : Int, lI a c n (v + 1).toNat = if a v = 1 ∧ c v = n then v else lI a c n v.toNat := by
      intro n
      rw [ev]
      show (if a (v.toNat : Int) = 1 ∧ c (v.toNat : Int) = n then (v.toNat : Int) else lI a c n v.toNat) = _
      rw [evv]
    refine ⟨by omega, by omega, fun neg => ih _ _ ⟨lz, kk, fun s s0 s1 => by have := sz s s0 s1; omega, by omega, fz, e1, fun s s0 s1 => ?_, fun i i0 i1 gi => ?_, fun n n0 gn => ?_⟩ (by omega), fun nn => ⟨by omega, ?_⟩⟩
    · rw [os, if_neg (by omega)]
      have := m1 s s0 s1
      omega
    · by_cases e : i = v
      · rw [e] at gi; omega
      · exact m2 i i0 (by omega) gi
    · rw [ls] at n0 gn ⊢
      by_cases q : a v = 1 ∧ c v = n
      · rw [if_pos q] at gn; omega
      · rw [if_neg q] at n0 gn ⊢; exact m3 n n0 gn
    have hs3 := sz (g v) (by omega) (by omega)
    have lz1 : LZ (zsA τ 13 6 v (zA τ 15 3 (g v))) := lz.s6 (by omega)
    have zx1 : ZX a b c g (zsA τ 13 6 v (zA τ 15 3 (g v))) := hx.k (fz.tr Fz.a6) e1
    have xf1 : xF (zsA τ 13 6 v (zA τ 15 3 (g v))) = xF σ := xF_eq e1
    refine x_bytesOf lz1.1 zx1 ⟨v0, show v < zI τ 13 7 by omega⟩ ?_
    rw [xf1]
    intro hx'
    obtain ⟨i1, i2, i3, i4, i5, i6, i7, i8, i9, i10⟩ := lz.1.it v0 (show v < zI τ 13 7 by omega)
    rw [z0] at i1 i6
    rw [z2] at i3 i6
    have szn : ∀ s : Int, 0 ≤ s → s < 60 → 0 ≤ zu (zA τ 15 3) (g v) (zA τ 15 3 (g v) + sI a b (xF σ) v) s ∧ zu (zA τ 15 3) (g v) (zA τ 15 3 (g v) + sI a b (xF σ) v) s ≤ 64 * (v + 1) := by
      intro s s0 s1
      by_cases e : s = g v
      · rw [e, pu_eq]; omega
      · rw [pu_ne e]; have := sz s s0 s1; omega
    have lz2 : LZ (zsA (zsA τ 13 6 v (zA τ 15 3 (g v))) 15 3 (g v) (zA τ 15 3 (g v) + sI a b (xF σ) v)) := lz1.f3 (fun s s0 s1 => by
      have := szn s s0 s1
      show 0 ≤ zu (zA τ 15 3) (g v) (zA τ 15 3 (g v) + sI a b (xF σ) v) s ∧ zu (zA τ 15 3) (g v) (zA τ 15 3 (g v) + sI a b (xF σ) v) s ≤ 20000
      omega)
    have k2 : kp [11, 13, 15] σ (zsA (zsA τ 13 6 v (zA τ 15 3 (g v))) 15 3 (g v) (zA τ 15 3 (g v) + sI a b (xF σ) v)) := (kk.ta (by decide)).ta (by decide)
    have fz2 : Fz σ (zsA (zsA τ 13 6 v (zA τ 15 3 (g v))) 15 3 (g v) (zA τ 15 3 (g v) + sI a b (xF σ) v)) := (fz.tr Fz.a6).tr Fz.a3
    have hsz : 0 ≤ v + 1 ∧ v + 1 ≤ zI τ 13 7 := by omega
    have n3 : ∀ s : Int, 0 ≤ s → s < 60 → zu (zA τ 15 3) (g v) (zA τ 15 3 (g v) + sI a b (xF σ) v) s = oS a b g (xF σ) s (v + 1).toNat := by
      intro s s0 s1
      rw [os]
      by_cases e : s = g v
      · rw [e, pu_eq, if_pos rfl, m1 (g v) (by omega) (by omega)]
      · rw [pu_ne e, if_neg (fun q => e q.symm), m1 s s0 s1]; omega
    have n6 : ∀ i : Int, 0 ≤ i → i < v + 1 → 0 ≤ g i → zu (zA τ 13 6) v (zA τ 15 3 (g v)) i = oS a b g (xF σ) (g i) i.toNat := by
      intro i i0 i1 gi
      by_cases e : i = v
      · rw [e, pu_eq]; exact m1 (g v) (by omega) (by omega)
      · rw [pu_ne e]; exact m2 i i0 (by omega) gi
    refine ⟨?_, fun n1 => ih _ _ ⟨lz2, k2, szn, hsz, fz2, e1, n3, n6, fun n n0 gn => ?_⟩ (by omega), fun e1' => ⟨?_, ih _ _ ⟨lz2.n4 ?_, k2.ta (by decide), szn, hsz, fz2.tr Fz.a4, e1, n3, n6, fun n n0 gn => ?_⟩ (by omega)⟩⟩
    · show -2147483648 ≤ zA τ 13 0 v ∧ zA τ 13 0 v ≤ 2147483647
      rw [z0]; omega
    · have n1' : ¬ zA τ 13 0 v = 1 := n1
      rw [z0] at n1'
      rw [ls, if_neg (fun q => n1' q.1)] at n0 gn ⊢
      exact m3 n n0 gn
    · have e1'' : zA τ 13 0 v = 1 := e1'
      rw [z0] at e1''
      have := i6 (by omega) (by omega) (by omega)
      show 0 ≤ zA τ 13 2 v ∧ zA τ 13 2 v < 240
      rw [z2]
      omega
    · show 0 ≤ zu (zA τ 13 6) v (zA τ 15 3 (g v)) v ∧ zu (zA τ 13 6) v (zA τ 15 3 (g v)) v ≤ 20000
      rw [pu_eq]; omega
    · have e1'' : zA τ 13 0 v = 1 := e1'
      rw [z0] at e1''
      show zu (zA τ 11 4) (zA τ 13 2 v) (zu (zA τ 13 6) v (zA τ 15 3 (g v)) v) n = _
      rw [ls] at n0 gn ⊢
      rw [z2, pu_eq]
      by_cases q : c v = n
      · rw [if_pos ⟨e1'', q⟩, q, pu_eq]; exact m1 (g v) (by omega) (by omega)
      · rw [if_neg (fun z => q z.2)] at n0 gn ⊢
        rw [pu_ne (fun z => q z.symm)]
        exact m3 n n0 gn
  · show 0 ≤ k s ∧ k s ≤ 64 * 0
    rw [hk s s0 s1]; decide
  · show k s = 0
    exact hk s s0 s1
theorem x_distance {a b c g X : Int → Int} {σ : ZS} {j : Int} {Q : Int → ZS → Prop} (h : LY σ) (hx : ZX a b c g σ) (hm : Mz a b c g X (zI σ 13 7) σ) (hs : sI a b (xF σ) j = sI a b X j) (hj : 0 ≤ j ∧ j < zI σ 13 7) (hl : 0 ≤ lI a c (c j) (zI σ 13 7).toNat ∧ g (lI a c (c j) (zI σ 13 7).toNat) = g j ∧ 0 ≤ g j) (hn : 0 ≤ zA σ 13 2 j) (hQ : (-30000 ≤ dS a b c g X (zI σ 13 7).toNat j ∧ dS a b c g X (zI σ 13 7).toNat j ≤ 30000) → Q (dS a b c g X (zI σ 13 7).toNat j) σ) : wpX2_distance j σ Q := by
  have hz := h.sz
  have hN := h.2.1.1
  obtain ⟨i1, i2, i3, i4, i5, i6, i7, i8, i9, i10⟩ := h.it hj.1 hj.2
  have ho := (h.1 (zA σ 13 2 j) hn (by omega)).2.2.2.2
  have h6 := h.2.2.1.1.2.2 j hj.1 hj.2
  have m4 := hm.2.2 (c j) hl.1 (by omega)
  have m6 := hm.2.1 j hj.1 hj.2 hl.2.2
  rw [hl.2.1] at m4
  unfold wpX2_distance
  refine ⟨by omega, by omega, x_bytesOf h hx hj (fun hb => ?_)⟩
  rw [hx.2.1] at ho ⊢
  rw [m4] at ho
  rw [m6] at h6
  rw [m4, m6, hs]
  rw [hs] at hb
  unfold dS at hQ
  exact hQ (by omega)
