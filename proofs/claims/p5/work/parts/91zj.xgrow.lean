/-! X: the class's jumps grow to the least closed set -/
theorem x_isExtern {σ : ZS} {i : Int} {Q : Int → ZS → Prop} (h : LY σ) (hi : 0 ≤ i ∧ i < zI σ 13 7) (hn : 0 ≤ zA σ 13 2 i) (h1 : zA σ 11 1 (zA σ 13 2 i) = 3 → Q 1 σ) (h0 : zA σ 11 1 (zA σ 13 2 i) ≠ 3 → Q 0 σ) : wpX2_isExtern i σ Q := by
  have hz := h.sz
  have hN := h.2.1.1
  obtain ⟨i1, i2, i3, i4, i5, i6, i7, i8, i9, i10⟩ := h.it hi.1 hi.2
  have hr := (h.1 (zA σ 13 2 i) hn (by omega)).2.1
  unfold wpX2_isExtern wpX2_isExtern_26
  exact ⟨by omega, by omega, by omega, fun q => ⟨by decide, h0 q⟩, fun q => ⟨by decide, h1 q⟩⟩
/-- the jumps that are short -/
def cS9 (a X : Int → Int) (N : Nat) : Int := psum (fun j => if a j = 9 then (if X j = 0 then 1 else 0) else 0) N
theorem cS9_nn {a X : Int → Int} {N : Nat} : 0 ≤ cS9 a X N := psum_nn _ (fun j _ _ => by
  show 0 ≤ (if a j = 9 then (if X j = 0 then (1 : Int) else 0) else 0)
  split
  · split <;> decide
  · decide)
theorem cS9_le {a X : Int → Int} : ∀ N : Nat, cS9 a X N ≤ N
  | 0 => Int.le_refl 0
  | N + 1 => by
    have := cS9_le (a := a) (X := X) N
    show cS9 a X N + (if a N = 9 then (if X N = 0 then (1 : Int) else 0) else 0) ≤ ((N + 1 : Nat) : Int)
    split
    · split <;> omega
    · omega
theorem cS9_ls {a X Y : Int → Int} {N : Nat} {j : Int} (h0 : 0 ≤ j) (h1 : j < N) (t : a j = 9) (x0 : X j = 0) (y0 : Y j ≠ 0) (hs : ∀ i : Int, 0 ≤ i → i < N → i ≠ j → Y i = X i) : cS9 a Y N = cS9 a X N - 1 := by
  unfold cS9
  rw [psum_ext (f := fun i => if a i = 9 then (if Y i = 0 then (1 : Int) else 0) else 0) (g := zu (fun i => if a i = 9 then (if X i = 0 then (1 : Int) else 0) else 0) j ((fun i => if a i = 9 then (if X i = 0 then (1 : Int) else 0) else 0) j + -1)) N (fun i i0 i1 => ?_), psum_zu N h0 h1]
  · omega
  · show (if a i = 9 then (if Y i = 0 then (1 : Int) else 0) else 0) = zu (fun i => if a i = 9 then (if X i = 0 then (1 : Int) else 0) else 0) j ((if a j = 9 then (if X j = 0 then (1 : Int) else 0) else 0) + -1) i
    by_cases e : i = j
    · rw [e, pu_eq, if_pos t, if_neg y0, if_pos t, if_pos x0]; rfl
    · rw [pu_ne e, hs i i0 i1 e]
/-- every jump has its place -/
def HJx (a b c g r : Int → Int) (N : Nat) : Prop := (∀ j : Int, 0 ≤ j → j < N → a j = 9 → r (c j) = 3 ∨ (0 ≤ lI a c (c j) N ∧ g (lI a c (c j) N) = g j ∧ 0 ≤ g j)) ∧ (∀ j : Int, 0 ≤ j → j < N → a j = 10 → 0 ≤ lI a c (c j) N ∧ g (lI a c (c j) N) = g j ∧ 0 ≤ g j) ∧ (∀ j : Nat, j < N → a j = 5 → 0 ≤ b j)
theorem HJx.j {a b c g r : Int → Int} {N : Nat} {j : Int} (h : HJx a b c g r N) (j0 : 0 ≤ j) (j1 : j < N) (t : a j = 9) : HJ a c g r N j := by
  rcases h.1 j j0 j1 t with q | q
  · exact Or.inl q
  · exact Or.inr ⟨q.1, q.2.1⟩
theorem x_growJumps {a b c g r : Int → Int} {σ : ZS} {Q : Int → ZS → Prop} (h : LZ σ) (hx : ZX a b c g σ) (hr : ∀ j : Int, 0 ≤ j → j < zI σ 13 7 → a j = 9 → zA σ 11 1 (c j) = r (c j)) (hm : Mz a b c g (xF σ) (zI σ 13 7) σ) (hj : HJx a b c g r (zI σ 13 7).toNat) (hl : Le a b c g r (xF σ) (zI σ 13 7).toNat) (hQ : ∀ (x : Int) (τ : ZS), (0 ≤ x ∧ x ≤ 1) → LZ τ → kp [11, 13, 15] σ τ → Fz σ τ → ZX a b c g τ → (x = 0 → zA τ 13 1 = zA σ 13 1 ∧ zA τ 13 6 = zA σ 13 6 ∧ zA τ 11 4 = zA σ 11 4 ∧ zA τ 15 3 = zA σ 15 3 ∧ Cl a b c g r (xF σ) (zI σ 13 7).toNat) → (x = 1 → Le a b c g r (xF τ) (zI σ 13 7).toNat ∧ cS9 a (xF τ) (zI σ 13 7).toNat < cS9 a (xF σ) (zI σ 13 7).toNat) → Q x τ) : wpX2_growJumps σ Q := by
  have hz0 := h.1.sz
  unfold wpX2_growJumps wpX2_growJumps_4
  refine lfp2_ind (fun _ v _ => (248 - v).toNat) (fun f v τ => LZ τ ∧ kp [11, 13, 15] σ τ ∧ (0 ≤ f ∧ f ≤ 1) ∧ (0 ≤ v ∧ v ≤ zI τ 13 7) ∧ Fz σ τ ∧ ZX a b c g τ ∧ (zA τ 13 6 = zA σ 13 6 ∧ zA τ 11 4 = zA σ 11 4 ∧ zA τ 15 3 = zA σ 15 3) ∧ (∀ j : Int, v ≤ j → zA τ 13 1 j = zA σ 13 1 j) ∧ (∀ j : Int, 0 ≤ j → j < zI σ 13 7 → a j = 9 → xF τ j ≠ 0 → xF σ j ≠ 0 ∨ r (c j) = 3 ∨ ¬ Sh (dS a b c g (xF σ) (zI σ 13 7).toNat j)) ∧ (f = 0 → zA τ 13 1 = zA σ 13 1 ∧ ∀ j : Int, 0 ≤ j → j < v → a j = 9 → xF σ j = 0 → r (c j) ≠ 3 ∧ Sh (dS a b c g (xF σ) (zI σ 13 7).toNat j)) ∧ cS9 a (xF τ) (zI σ 13 7).toNat ≤ cS9 a (xF σ) (zI σ 13 7).toNat ∧ (f = 1 → cS9 a (xF τ) (zI σ 13 7).toNat < cS9 a (xF σ) (zI σ 13 7).toNat)) (fun K f v τ hI ih => ?_) ⟨h, kp.rf, by decide, ⟨by decide, h.1.sz.1⟩, Fz.rf, hx, ⟨rfl, rfl, rfl⟩, fun j _ => rfl, fun j _ _ _ q => Or.inl q, fun _ => ⟨rfl, fun j j0 j1 => absurd j0 (by omega)⟩, Int.le_refl _, fun q => absurd q (by decide)⟩
  obtain ⟨lz, kk, hf, ⟨v0, v1⟩, fz, zx, ⟨e6, e4, e3⟩, ej, g2, g3, g4, g5⟩ := hI
  have hz := lz.1.sz
  have e7 : zI τ 13 7 = zI σ 13 7 := fz.2.1 7
  unfold wpbX2_growJumps_4 wpX2_growJumps_73 wpX2_growJumps_61
  refine ⟨by omega, by omega, fun q => ⟨hf, hQ f τ hf lz kk fz zx (fun f0 => ⟨(g3 f0).1, e6, e4, e3, fun j j0 j1 t x0 => (g3 f0).2 j j0 (by omega) t x0⟩) (fun f1 => ⟨fun Y hY j j0 j1 t y0 => ?_, g5 f1⟩)⟩, fun lt => ?_⟩
  · by_cases q : xF τ j = 0
    · exact q
    · exfalso
      rcases g2 j j0 (by omega) t q with z | z
      · exact z (hl Y hY j j0 j1 t y0)
      · exact hl.ad hj.2.2 j0 j1 t (hj.j j0 j1 t) z Y hY y0
  obtain ⟨i1, i2, i3, i4, i5, i6, i7, i8, i9, i10⟩ := lz.1.it v0 (show v < zI τ 13 7 by omega)
  have z0 : zA τ 13 0 v = a v := by rw [zx.1]
  have z2 : zA τ 13 2 v = c v := by rw [zx.2.1]
  have on : (f = 0 → a v = 9 → xF σ v = 0 → r (c v) ≠ 3 ∧ Sh (dS a b c g (xF σ) (zI σ 13 7).toNat v)) → K f (v + 1) τ := by
    intro hh
    refine ih _ _ _ ⟨lz, kk, hf, by omega, fz, zx, ⟨e6, e4, e3⟩, fun j hj' => ej j (by omega), g2, fun f0 => ⟨(g3 f0).1, fun j j0 j1 t x0 => ?_⟩, g4, g5⟩ (by omega)
    by_cases e : j = v
    · rw [e] at t x0 ⊢; exact hh f0 t x0
    · exact (g3 f0).2 j j0 (by omega) t x0
  have gr : a v = 9 → zA τ 13 1 v = 2 → (r (c v) = 3 ∨ ¬ Sh (dS a b c g (xF σ) (zI σ 13 7).toNat v)) → (0 ≤ v ∧ v < 248) ∧ K 1 (v + 1) (zsA τ 13 1 v 3) := by
    intro e e2 hs
    have x0 : xF τ v = 0 := if_pos e2
    have xn : ∀ j : Int, j ≠ v → xF (zsA τ 13 1 v 3) j = xF τ j := by
      intro j hj'
      show (if zu (zA τ 13 1) v 3 j = 2 then (0 : Int) else 1) = (if zA τ 13 1 j = 2 then (0 : Int) else 1)
      rw [pu_ne hj']
    have xv : xF (zsA τ 13 1 v 3) v ≠ 0 := by
      show (if zu (zA τ 13 1) v 3 v = 2 then (0 : Int) else 1) ≠ 0
      rw [pu_eq]; decide
    have cs := cS9_ls (a := a) (X := xF τ) (Y := xF (zsA τ 13 1 v 3)) (N := (zI σ 13 7).toNat) (j := v) v0 (by omega) e x0 xv (fun i _ _ ne => xn i ne)
    refine ⟨by omega, ih _ _ _ ⟨lz.v3 (by omega), kk.ta (by decide), by decide, ⟨by omega, show v + 1 ≤ zI τ 13 7 by omega⟩, fz.tr Fz.a1, ⟨zx.1, zx.2.1, zx.2.2.1, fun j j0 j1 ne => ?_⟩, ⟨e6, e4, e3⟩, fun j hj' => ?_, fun j j0 j1 t q => ?_, fun q => absurd q (by decide), by omega, fun _ => by omega⟩ (by omega)⟩
    · show zu (zA τ 13 1) v 3 j = b j
      rw [pu_ne (fun q => ne (by rw [q]; exact e))]
      exact zx.2.2.2 j j0 j1 ne
    · show zu (zA τ 13 1) v 3 j = zA σ 13 1 j
      rw [pu_ne (by omega)]; exact ej j (by omega)
    · by_cases ejv : j = v
      · rw [ejv]; exact Or.inr hs
      · rw [xn j ejv] at q; exact g2 j j0 j1 t q
  refine ⟨by omega, by omega, fun n9 => on (fun _ t => by omega), fun e9 => ⟨by omega, fun n2 => on (fun f0 t x0 => ?_), fun e2 => ?_⟩⟩
  · exfalso
    have e1 := (g3 f0).1
    have : xF σ v ≠ 0 := by
      show (if zA σ 13 1 v = 2 then (0 : Int) else 1) ≠ 0
      rw [← e1, if_neg n2]; decide
    exact this x0
  have t9 : a v = 9 := by omega
  have er : zA τ 11 1 (c v) = r (c v) := by rw [fz.2.2.2.1 1 (by decide)]; exact hr v v0 (by omega) t9
  have hn := i6 (by omega) (by omega) (by omega)
  have x0 : xF τ v = 0 := if_pos e2
  have x0' : xF σ v = 0 := by
    show (if zA σ 13 1 v = 2 then (0 : Int) else 1) = 0
    rw [← ej v (Int.le_refl _), if_pos e2]
  have ss : sI a b (xF τ) v = sI a b (xF σ) v := sI_cg (fun _ => ⟨fun _ => x0', fun _ => x0⟩)
  refine x_isExtern lz.1 ⟨v0, by omega⟩ hn (fun q => ⟨by decide, fun _ => gr t9 e2 (Or.inl (by rw [← er, ← z2]; exact q)), fun q => absurd q (by decide)⟩) (fun q => ⟨by decide, fun q => absurd rfl q, fun _ => ?_⟩)
  have nr : r (c v) ≠ 3 := by rw [← er, ← z2]; exact q
  have hh : 0 ≤ lI a c (c v) (zI σ 13 7).toNat ∧ g (lI a c (c v) (zI σ 13 7).toNat) = g v ∧ 0 ≤ g v := by
    rcases hj.1 v v0 (by omega) t9 with z | z
    · exact absurd z nr
    · exact z
  have mt : Mz a b c g (xF σ) (zI τ 13 7) τ := by
    rw [e7]
    unfold Mz
    rw [e6, e4, e3]; exact hm
  refine x_distance lz.1 zx mt ss ⟨v0, by omega⟩ (by rw [e7]; exact hh) hn (fun hb => ?_)
  rw [e7] at hb ⊢
  exact c_isShort (by omega) (fun s1 s2 => ⟨by decide, fun _ => on (fun _ _ _ => ⟨nr, s1, s2⟩), fun q => absurd q (by decide)⟩) (fun ns => ⟨by decide, fun q => absurd rfl q, fun _ => gr t9 e2 (Or.inr ns)⟩)
theorem x_sizeJumps {a b c g r : Int → Int} {σ : ZS} {Q : Int → ZS → Prop} (h : LZ σ) (hx : ZX a b c g σ) (hr : ∀ j : Int, 0 ≤ j → j < zI σ 13 7 → a j = 9 → zA σ 11 1 (c j) = r (c j)) (hj : HJx a b c g r (zI σ 13 7).toNat) (h2 : ∀ j : Int, 0 ≤ j → j < zI σ 13 7 → a j = 9 → zA σ 13 1 j = 2) (hQ : ∀ (x : Int) (τ : ZS), LZ τ → kp [11, 13, 15] σ τ → x = psum (zA τ 15 3) (zI τ 15 4).toNat → (0 ≤ x ∧ x ≤ 1200000) → Fz σ τ → ZX a b c g τ → Mz a b c g (xF τ) (zI σ 13 7) τ → Cl a b c g r (xF τ) (zI σ 13 7).toNat → Le a b c g r (xF τ) (zI σ 13 7).toNat → Q x τ) : wpX2_sizeJumps σ Q := by
  have f33 : ∀ τ : ZS, LZ τ → kp [11, 13, 15] σ τ → Fz σ τ → ZX a b c g τ → Mz a b c g (xF τ) (zI σ 13 7) τ → Cl a b c g r (xF τ) (zI σ 13 7).toNat → Le a b c g r (xF τ) (zI σ 13 7).toNat → wpX2_sizeJumps_33 τ Q := by
    intro τ lz kk fz zx mz cl le
    have a4 := lz.1.2.2.2.1
    have a7 := lz.1.2.2.2.2.2.2.1
    unfold wpX2_sizeJumps_33 wpX2_sizeJumps_37
    refine lfp2_ind (fun _ v _ => (60 - v).toNat) (fun b v υ => υ = τ ∧ b = psum (zA τ 15 3) v.toNat ∧ (0 ≤ b ∧ b ≤ 20000 * v) ∧ (0 ≤ v ∧ v ≤ zI τ 15 4)) (fun K b v υ hI ih => ?_) ⟨rfl, rfl, by decide, by decide, a4.1⟩
    obtain ⟨e, hb, hb2, v0, v1⟩ := hI
    rw [e]
    unfold wpbX2_sizeJumps_37
    refine ⟨by omega, by omega, fun q => hQ b τ lz kk (by rw [show zI τ 15 4 = v by omega]; exact hb) (by omega) fz zx mz cl le, fun q => ⟨by omega, ih _ _ _ ⟨rfl, ?_, ?_, by omega, by omega⟩ (by omega)⟩⟩
    · rw [show (v + 1).toNat = v.toNat + 1 by omega]
      show b + zA τ 15 3 v = psum (zA τ 15 3) v.toNat + zA τ 15 3 ((v.toNat : Nat) : Int)
      rw [← hb, show ((v.toNat : Nat) : Int) = v by omega]
    · have := (a7 v v0 (by omega)).2
      omega
  have hz0 := h.1.sz
  unfold wpX2_sizeJumps wpX2_sizeJumps_2
  refine lfp1_ind (fun v _ => (249 - v).toNat) (fun v τ => LZ τ ∧ kp [11, 13, 15] σ τ ∧ (0 ≤ v ∧ v ≤ 249) ∧ Fz σ τ ∧ ZX a b c g τ ∧ Le a b c g r (xF τ) (zI σ 13 7).toNat ∧ cS9 a (xF τ) (zI σ 13 7).toNat ≤ zI σ 13 7 - v) (fun K v τ hI ih => ?_) ⟨h, kp.rf, by decide, Fz.rf, hx, fun Y hY j j0 j1 t y0 => if_pos (h2 j j0 (by omega) t), by have := cS9_le (a := a) (X := xF σ) (zI σ 13 7).toNat; omega⟩
  obtain ⟨lz, kk, hv, fz, zx, le, cs⟩ := hI
  have hz := lz.1.sz
  have e7 : zI τ 13 7 = zI σ 13 7 := fz.2.1 7
  have nn := cS9_nn (a := a) (X := xF τ) (N := (zI σ 13 7).toNat)
  unfold wpbX2_sizeJumps_2
  refine ⟨by omega, by omega, fun q => by omega, fun q => x_measure lz zx (fun υ uz uk ufz u1 um => ?_)⟩
  have u7 : zI υ 13 7 = zI σ 13 7 := (ufz.2.1 7).trans e7
  have xu : xF υ = xF τ := xF_eq u1
  have zxu := zx.k ufz u1
  have fzu := fz.tr ufz
  refine x_growJumps (r := r) uz zxu (fun j j0 j1 t => by rw [fzu.2.2.2.1 1 (by decide)]; exact hr j j0 (by omega) t) (by rw [xu, u7, ← e7]; exact um) (by rw [u7]; exact hj) (by rw [u7, xu]; exact le) (fun x ω hx' wz wk wfz wzx w0 w1 => ?_)
  rw [u7, xu] at w0 w1
  refine ⟨by omega, fun n0 => ?_, fun e0 => ?_⟩
  · obtain ⟨le', cs'⟩ := w1 (by omega)
    exact ih _ _ ⟨wz, (kk.tr uk).tr wk, by omega, fzu.tr wfz, wzx, le', by omega⟩ (by omega)
  · obtain ⟨y1, y6, y4, y3, cl⟩ := w0 e0
    have xw : xF ω = xF τ := (xF_eq y1).trans xu
    refine f33 ω wz ((kk.tr uk).tr wk) (fzu.tr wfz) wzx ?_ (by rw [xw]; exact cl) (by rw [xw]; exact le)
    rw [xw]
    unfold Mz
    rw [y6, y4, y3, ← e7]; exact um
theorem x_firstTooFar {a b c g r : Int → Int} {σ : ZS} {Q : Int → ZS → Prop} (h : LZ σ) (hx : ZX a b c g σ) (hm : Mz a b c g (xF σ) (zI σ 13 7) σ) (hj : HJx a b c g r (zI σ 13 7).toNat) (hw : ∀ j : Int, 0 ≤ j → j < zI σ 13 7 → a j = 10 → 0 ≤ zA σ 13 4 j) (hQ : ∀ x : Int, (-1 ≤ x ∧ x ≤ 480) → (x < 0 ↔ ∀ j : Int, 0 ≤ j → j < zI σ 13 7 → a j = 10 → Sh (dS a b c g (xF σ) (zI σ 13 7).toNat j)) → Q x σ) : wpX2_firstTooFar σ Q := by
  have hz := h.1.sz
  unfold wpX2_firstTooFar wpX2_firstTooFar_2
  refine lfp1_ind (fun v _ => (248 - v).toNat) (fun v τ => τ = σ ∧ (0 ≤ v ∧ v ≤ zI σ 13 7) ∧ ∀ j : Int, 0 ≤ j → j < v → a j = 10 → Sh (dS a b c g (xF σ) (zI σ 13 7).toNat j)) (fun K v τ hI ih => ?_) ⟨rfl, ⟨by decide, hz.1⟩, fun j j0 j1 => absurd j0 (by omega)⟩
  obtain ⟨e, ⟨v0, v1⟩, hs⟩ := hI
  rw [e]
  unfold wpbX2_firstTooFar_2 wpX2_firstTooFar_48
  refine ⟨by omega, by omega, fun q => hQ _ (by decide) ⟨fun _ j j0 j1 => hs j j0 (by omega), fun _ => by decide⟩, fun lt => ?_⟩
  obtain ⟨i1, i2, i3, i4, i5, i6, i7, i8, i9, i10⟩ := h.1.it v0 (show v < zI σ 13 7 by omega)
  have z0 : zA σ 13 0 v = a v := by rw [hx.1]
  have on : (a v = 10 → Sh (dS a b c g (xF σ) (zI σ 13 7).toNat v)) → K (v + 1) σ := fun hh => ih _ _ ⟨rfl, by omega, fun j j0 j1 t => by
    by_cases ej : j = v
    · rw [ej] at t ⊢; exact hh t
    · exact hs j j0 (by omega) t⟩ (by omega)
  refine ⟨by omega, by omega, fun n => on (fun t => by omega), fun e10 => ?_⟩
  have t10 : a v = 10 := by omega
  have hn := i6 (by omega) (by omega) (by omega)
  have ww := hw v v0 (by omega) t10
  exact x_distance h.1 hx hm rfl ⟨v0, by omega⟩ (hj.2.1 v v0 (by omega) t10) hn (fun hb => c_isShort (by omega) (fun s1 s2 => ⟨by decide, fun _ => on (fun _ => ⟨s1, s2⟩), fun q => absurd q (by decide)⟩) (fun ns => ⟨by decide, fun q => absurd rfl q, fun _ => hQ _ i5 ⟨fun q => by omega, fun q => absurd (q v v0 (by omega) t10) ns⟩⟩))
