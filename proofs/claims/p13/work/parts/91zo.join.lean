/-! X: the reference's assemble, its answer told -/
/-- no name is wrong -/
def JW (τ : ZS) : Prop := zI τ 0 18 < 0 ∧ ∀ u : Int, 0 ≤ u → u < zI τ 0 23 → Ju τ u
/-! X: both sides joined -/
theorem x_mayDeclareC {i : Int} {σ : ZS} {R Q : Int → ZS → Prop} (g : wpX2_mayDeclare i σ R) (hp : 0 ≤ zA σ 13 3 i) (h1 : R 1 σ → Q 1 σ) (h0 : ∀ τ : ZS, R 0 τ → 0 ≤ zI τ 15 5 → Q 0 τ) : wpX2_mayDeclare i σ Q := by
  unfold wpX2_mayDeclare wpX2_mayDeclare_43 at g ⊢
  obtain ⟨g1, g2, g3, g4, g5⟩ := g
  exact ⟨g1, g2, g3, fun n => x_blame hp (g4 n) (fun τ r w _ _ _ => h0 τ r w), fun e => ⟨(g5 e).1, (g5 e).2.1, fun q => x_blame hp ((g5 e).2.2.1 q) (fun τ r w _ _ _ => h0 τ r w), fun q => h1 ((g5 e).2.2.2 q)⟩⟩
theorem x_openSegmentC {σ : ZS} {i c : Int} {Q : Int → ZS → Prop} (h : LY σ) (hi : 0 ≤ i ∧ i < zI σ 13 7) (ht : zA σ 13 0 i = 0) (hc : CU σ c i) (h5 : 0 ≤ zI σ 15 5) (hQ : ∀ (x : Int) (τ : ZS), LY τ → CU τ x (i + 1) → ob τ 13 = ob σ 13 → kp [11, 15] σ τ → zI σ 15 4 ≤ zI τ 15 4 → 0 ≤ zI τ 15 5 → Q x τ) : wpX2_openSegment i c σ Q := by
  have hit := h.it hi.1 hi.2
  obtain ⟨i1, i2, i3, i4, i5, i6, i7, i8, i9, i10⟩ := hit
  have hn : 0 ≤ zA σ 13 2 i := i6 (by omega) (by omega) (by omega)
  have hp := i7 hn
  have g := c_openSegment (Q := fun x τ => LY τ ∧ CU τ x (i + 1) ∧ ob τ 13 = ob σ 13 ∧ kp [11, 15] σ τ ∧ zI σ 15 4 ≤ zI τ 15 4) h hi ht hc (fun x τ a b c d e => ⟨a, b, c, d, e⟩)
  have f58 : wpX2_openSegment_58 i c (zA σ 13 2 i) (zA σ 13 1 i) σ (fun x τ => LY τ ∧ CU τ x (i + 1) ∧ ob τ 13 = ob σ 13 ∧ kp [11, 15] σ τ ∧ zI σ 15 4 ≤ zI τ 15 4) → wpX2_openSegment_58 i c (zA σ 13 2 i) (zA σ 13 1 i) σ Q := by
    intro k
    unfold wpX2_openSegment_58 wpX2_openSegment_75 wpX5_make at k ⊢
    refine x_mayDeclareC k hp (fun r => ?_) (fun τ r w => ?_)
    · have n1 : ¬ (1 : Int) = 0 := by decide
      refine ⟨by decide, fun q => absurd q n1, fun _ => ⟨(r.2.2 n1).1, fun lt => ?_, fun ge => ?_⟩⟩
      · obtain ⟨r1, r2, r3, r4, r5, r6, r7, r8⟩ := (r.2.2 n1).2.1 lt
        exact ⟨r1, r2, r3, hQ _ _ r4 r5 r6 r7 r8 h5⟩
      · obtain ⟨r1, r2, r3, r4, r5⟩ := (r.2.2 n1).2.2 ge
        exact hQ _ _ r1 r2 r3 r4 r5 h5
    · obtain ⟨r1, r2, r3, r4, r5⟩ := r.2.1 rfl
      exact ⟨by decide, fun _ => hQ c τ r1 r2 r3 r4 r5 w, fun q => absurd rfl q⟩
  unfold wpX2_openSegment at g ⊢
  obtain ⟨g1, g2, g3, g4, g5⟩ := g
  refine ⟨g1, g2, g3, fun n => f58 (g4 n), fun e => ⟨(g5 e).1, (g5 e).2.1, fun n => f58 ((g5 e).2.2.1 n), fun y => ?_⟩⟩
  obtain ⟨r1, r2, r3, r4, r5⟩ := (g5 e).2.2.2 y
  exact hQ _ σ r1 r2 r3 r4 r5 h5
/-- too many names: one is wrong -/
theorem x_firstWrongC {σ : ZS} {Q : Int → ZS → Prop} (h1 : NR σ) (h2 : NS σ) (h3 : NF σ) (h4 : DJ σ) (h7 : LRg σ) (h25 : 25 ≤ zI σ 11 5) (hQ : ∀ (x : Int) (τ : ZS), LY τ → DS τ (zI τ 13 7) → x = zI τ 15 5 → 0 ≤ x → kp [11, 13, 15] σ τ → Q x τ) : wpX2_firstWrong σ Q := by
  have h6 := h2.2.2 h25
  have h6' := h2.2.1
  unfold wpX2_firstWrong wpX2_declareAll wpX2_declareAll_9
  refine lfp2_ind (fun _ v _ => (248 - v).toNat) (fun c v τ => LY τ ∧ CU τ c v ∧ DS τ v ∧ kp [11, 13, 15] σ τ ∧ (0 ≤ v ∧ v ≤ zI τ 13 7) ∧ 0 ≤ zI τ 15 5) (fun K c v τ hI ih => ?_) ⟨⟨h1, h2, h4.k rfl ((ob_i (by decide)).trans (ob_i (by decide))), (show (0 : Int) ≤ 0 ∧ (0 : Int) ≤ 60 by decide), (show -1 ≤ zI σ 11 6 ∧ zI σ 11 6 ≤ 480 from h6'), fun _ => h6, h7, fun n n0 n1 => ?_, fun s s0 s1 => ?_⟩, ⟨(show (-1 : Int) ≤ -1 ∧ (-1 : Int) < 0 by decide), fun _ => Or.inr ⟨rfl, fun j j0 j1 => absurd j0 (by omega)⟩⟩, fun j j0 j1 => absurd j0 (by omega), (kp.i (by decide)).ti (by decide), ⟨by decide, h4.1.1.1⟩, h6⟩
  · obtain ⟨ly, cu, ds, k, ⟨v0, v1⟩, w5⟩ := hI
    have hz := ly.sz
    have next : ∀ (x : Int) (υ : ZS), v < zI τ 13 7 → LY υ → CU υ x (v + 1) → ob υ 13 = ob τ 13 → kp [11, 15] τ υ → zI τ 15 4 ≤ zI υ 15 4 → 0 ≤ zI υ 15 5 → wpX2_declareAll_90 K x v υ (fun σ12 => wpX2_firstWrong_17 0 σ12 Q) := by
      intro x υ lt uy uc e13 uk us u5
      unfold wpX2_declareAll_90
      refine ⟨by omega, ih _ _ _ ⟨uy.s5, uc, fun j j0 j1 => ?_, (k.tr (uk.up (by decide))).ta (by decide), ⟨by omega, ?_⟩, u5⟩ (by omega)⟩
      · show -1 ≤ zu (zA υ 13 5) v x j ∧ zu (zA υ 13 5) v x j < zI υ 15 4
        by_cases e : j = v
        · rw [e, pu_eq]; exact uc.1
        · rw [pu_ne e, ob_A e13 5]
          have := ds j j0 (by omega)
          omega
      · show v + 1 ≤ zI υ 13 7
        rw [ob_I e13 7]; omega
    unfold wpbX2_declareAll_9
    refine ⟨by omega, by omega, fun q => ?_, fun lt => ?_⟩
    · have ds' : DS τ (zI τ 13 7) := by rw [show zI τ 13 7 = v by omega]; exact ds
      unfold wpX2_firstWrong_17
      refine lfp1_ind (fun v _ => (248 - v).toNat) (fun v' τ' => LY τ' ∧ DS τ' (zI τ' 13 7) ∧ kp [11, 13, 15] σ τ' ∧ (0 ≤ v' ∧ v' ≤ zI τ' 13 7) ∧ 0 ≤ zI τ' 15 5) (fun K' v' τ' hI' ih' => ?_) ⟨ly, ds', k, ⟨by decide, ly.sz.1⟩, w5⟩
      obtain ⟨ly', ds'', k', ⟨v0', v1'⟩, w5'⟩ := hI'
      have hz' := ly'.sz
      unfold wpbX2_firstWrong_17 wpX2_firstWrong_49
      refine ⟨by omega, by omega, fun q => hQ _ τ' ly' ds'' rfl w5' k', fun lt => c_isUseRight ly' ds'' ⟨v0', by omega⟩ (fun u => ⟨by decide, fun _ => ih' _ _ ⟨ly', ds'', k', by omega, w5'⟩ (by omega), fun q => absurd q (by decide)⟩) (fun hn => ⟨by decide, fun q => absurd rfl q, fun _ => ⟨by omega, ?_⟩⟩)⟩
      obtain ⟨i1, i2, i3, i4, i5, i6, i7, i8, i9, i10⟩ := ly'.it v0' (show v' < zI τ' 13 7 by omega)
      have hp := i7 hn
      exact c_blame ly' (by omega) (fun w => ih' _ _ ⟨ly', ds'', k', by omega, w5'⟩ (by omega)) (fun w w0 w1 => ih' _ _ ⟨ly'.bl w0 w1, ds'', k'.ti (by decide), (show 0 ≤ v' + 1 ∧ v' + 1 ≤ zI τ' 13 7 by omega), w0⟩ (by omega))
    have it := ly.it v0 (by omega)
    obtain ⟨i1, i2, i3, i4, i5, i6, i7, i8, i9, i10⟩ := it
    have cu0 := cu
    obtain ⟨c1, c2⟩ := cu
    have keep : zA τ 13 0 v ≠ 0 → CU τ c (v + 1) := fun ne => ⟨c1, fun w => by omega⟩
    have keepU : ∀ υ : ZS, zI υ 15 4 = zI τ 15 4 → 0 ≤ zI υ 15 5 → CU υ c (v + 1) := fun υ e w => ⟨by rw [e]; exact c1, fun w' => by omega⟩
    have ge5 : ∀ υ : ZS, LY υ → (zI υ 15 5 < 0 → zI τ 15 5 < 0) → 0 ≤ zI υ 15 5 := fun υ _ hw => by
      by_cases q : zI υ 15 5 < 0
      · have := hw q; omega
      · omega
    have same : zA τ 13 0 v ≠ 0 → wpX2_declareAll_90 K c v τ (fun σ12 => wpX2_firstWrong_17 0 σ12 Q) := fun ne => next c τ (by omega) ly (keep ne) rfl kp.rf (Int.le_refl _) w5
    refine ⟨by omega, by omega, fun e0 => x_openSegmentC ly ⟨v0, by omega⟩ e0 cu0 w5 (fun x υ uy uc e13 uk us u5 => next x υ (by omega) uy uc e13 uk us u5), fun n0 => ⟨fun e1 => ?_, fun _ => ⟨fun _ => same n0, fun _ => ⟨fun e3 => ?_, fun _ => same n0⟩⟩⟩⟩
    · exact c_declare ly ⟨v0, by omega⟩ (i6 (by omega) (by omega) (by omega)) (Or.inl ⟨rfl, c1, fun w => by omega⟩) (fun υ uy e13 uk us uw => next c υ (by omega) uy (keepU υ us (ge5 υ uy uw)) e13 uk (by omega) (ge5 υ uy uw))
    · exact c_declare ly ⟨v0, by omega⟩ (i6 (by omega) (by omega) (by omega)) (Or.inr ⟨rfl, rfl⟩) (fun υ uy e13 uk us uw => next c υ (by omega) uy (keepU υ us (ge5 υ uy uw)) e13 uk (by omega) (ge5 υ uy uw))
  · obtain ⟨z1, z2⟩ := h3 n n0 n1
    have z1' : zA (zsI (zsI σ 15 5 (zI σ 11 6)) 15 4 0) 11 1 n = 0 := z1
    rw [z1']
    exact ⟨fun _ => z2, fun q => absurd q (by decide), fun q => absurd q (by decide), fun q => absurd q (by decide)⟩
  · have s1' : s < 0 := s1
    omega
/-- the reference's parse, seen from the class's -/
theorem p_parse {h : Int → Int} {L x : Int} {E M : Int → Int} {σ υ ρ : ZS} (hC : CT h L E M σ) (hE : PE h L E M (zsI (zsI (zsI σ 14 4 0) 14 5 0) 13 7 0) υ x) (hA : PA0 ρ) (hL : zI ρ 0 2 = L) (ht : ∀ j : Int, 0 ≤ j → j < L → zA ρ 0 1 j = h j) : ∀ Qp : Int → ZS → Prop, (∀ (r : Int) (τ : ZS), GG τ → fr PF PA (zsI ρ 0 0 0) τ → (r = 0 ∨ r = 1) → ((r = 0 ∧ ¬ x < 0) ∨ (r = 1 ∧ x < 0 ∧ RB υ τ (zI υ 11 5) [])) → Qp r τ) → wpX11_parse (zsI ρ 0 0 0) Qp := by
  intro Qp hq
  unfold wpX11_parse
  obtain ⟨ρ0, h0⟩ : ∃ ρ0, ρ0 = zsI (zsI (zsI (zsI (zsI (zsI (zsI (zsI (zsI ρ 0 0 0) 0 5 0) 0 17 0) 0 18 (-1)) 0 23 0) 0 31 0) 0 32 (-1)) 0 33 0) 0 34 0 := ⟨_, rfl⟩
  have hf0 : fr PF PA (zsI ρ 0 0 0) ρ0 := by rw [h0]; exact (((((((fr.rf.ti (by decide)).ti (by decide)).ti (by decide)).ti (by decide)).ti (by decide)).ti (by decide)).ti (by decide)).ti (by decide)
  have hA1 : PA0 ρ0 := by rw [h0]; exact hA
  have i5 : zI ρ0 0 5 = 0 := by rw [h0]; rfl
  have i17 : zI ρ0 0 17 = 0 := by rw [h0]; rfl
  have i18 : zI ρ0 0 18 = -1 := by rw [h0]; rfl
  have i23 : zI ρ0 0 23 = 0 := by rw [h0]; rfl
  have i31 : zI ρ0 0 31 = 0 := by rw [h0]; rfl
  have i32 : zI ρ0 0 32 = -1 := by rw [h0]; rfl
  have i33 : zI ρ0 0 33 = 0 := by rw [h0]; rfl
  have i34 : zI ρ0 0 34 = 0 := by rw [h0]; rfl
  have i2 : zI ρ0 0 2 = L := by rw [h0]; exact hL
  have a1 : zA ρ0 0 1 = zA ρ 0 1 := by rw [h0]; rfl
  rw [← h0]
  clear h0
  refine x_next0 hA1 i5 i17 i18 i23 i31 i32 i33 i34 (fun τ g f hI nx => ?_)
  obtain ⟨σ0, hσ0⟩ : ∃ τ, τ = zsI (zsI (zsI σ 14 4 0) 14 5 0) 13 7 0 := ⟨_, rfl⟩
  rw [← hσ0] at hE
  have hC0 : CT h L E M σ0 := by
    rw [hσ0]
    exact hC.k (((ob_i (by decide)).trans (ob_i (by decide))).trans (ob_i (by decide))) (((ob_i (by decide)).trans (ob_i (by decide))).trans (ob_i (by decide)))
  have at0 : zI σ0 14 4 = 0 := by rw [hσ0]; rfl
  have op0 : zI σ0 14 5 = 0 := by rw [hσ0]; rfl
  have y0 : yS σ0 = yD0 := by rw [hσ0]; rfl
  clear hσ0
  have t := hC0.1.2.1
  have n1 := hC0.1.2.2.1
  have sy : SY h L E σ0 0 τ := SY_nxt t (by decide) (by omega) i2 (fun j j0 j1 => by rw [a1]; exact ht j j0 j1) hA1.1.2.2 hC0.2 (by rw [i5, t.1]) nx
  have rb : RB σ0 τ (M 0) [] := by
    refine ⟨g, ⟨by rw [f.1 17 (by decide), i17, t.2.1], fun n n0 n1 => by rw [t.2.1] at n1; omega⟩, by rw [f.1 33 (by decide), i33, op0], fun _ => ?_⟩
    rw [y0, t.2.1]
    refine ⟨⟨fun n n0 n1 => by omega, fun n _ => rfl, by rw [f.1 34 (by decide), i34]; rfl, fun s s0 s1 => by have s1' : s < 0 := s1; omega, by rw [f.1 32 (by decide), i32]; rfl, ?_⟩, ⟨by rw [f.1 31 (by decide), i31]; rfl, fun p p0 p1 => by have p1' : p < 0 := p1; omega⟩, ⟨by rw [f.1 23 (by decide), i23]; rfl, fun i i0 i1 => by have i1' : i < 0 := i1; omega⟩⟩
    rw [f.1 18 (by decide), i18]
    exact ⟨fun _ q => q, fun _ => by decide⟩
  have hfτ : fr PF PA (zsI ρ 0 0 0) τ := hf0.tr (f.up (by decide) (by decide))
  refine hE τ Qp ⟨by rw [at0]; exact sy, by rw [at0]; exact rb, hI⟩ (fun xn ρ' b' pr' => hq 1 ρ' b'.1 (hfτ.tr pr'.1) (Or.inr rfl) (Or.inr ⟨rfl, xn, b'⟩)) (fun xn ρ' g' pr' => hq 0 ρ' g' (hfτ.tr pr'.1) (Or.inl rfl) (Or.inl ⟨rfl, xn⟩))
/-- whether a name is wrong: the reference answers as the walk -/
theorem JW_ok {υ τ : ZS} (hB : RB υ τ (zI υ 11 5) []) (h24 : zI υ 11 5 ≤ 24) : JW τ ↔ yOK (yS υ) := by
  obtain ⟨g, ⟨b1, b2⟩, b3, b4⟩ := hB
  obtain ⟨c1, c2, c3⟩ := b4 h24
  have g5 := g.2.2.2.2.2.2.2.2.2.1.1
  have g2 := g.2.2.2.2.2.2.1
  have l8 := g.2.1.2.2.2.2.2.2.2.1
  have l2 := g.2.1.2.1
  have l1 := g.2.1.1
  exact Ju_ok c1 c3 (fun u u0 u1 => ⟨(g2 u u0 (by omega)).2.1.1, by have := g5 u u0 u1; omega⟩)
theorem JW_no {υ τ : ZS} (hB : RB υ τ (zI υ 11 5) []) (h25 : 25 ≤ zI υ 11 5) : ¬ JW τ := by
  obtain ⟨g, ⟨b1, b2⟩, b3, b4⟩ := hB
  intro q
  have := g.2.2.2.2.1.1 q.1
  omega
/-- every jump has its place, where all names are right -/
theorem HJx_of {a b c : Int → Int} {N : Nat} (ht : ∀ j : Nat, j < N → 0 ≤ a j ∧ a j ≤ 12) (hok : yOK (yF a b c N)) (h5 : ∀ j : Nat, j < N → a j = 5 → 0 ≤ b j) (hg : ∀ j : Int, 0 ≤ j → j < N → (yF a b c N).so (c j) = 2 → (yF a b c N).sg (c j) = gI a b c j → 0 ≤ gI a b c j) : HJx a b c (gI a b c) (yF a b c N).so N := by
  have ok := (yF_ok (a := a) (b := b) (c := c) (yF a b c N) N ht).2.mp hok.2
  have so := yF_so N ht hok.1
  have here : ∀ j : Int, 0 ≤ j → j < N → (yF a b c N).so (c j) = 2 → (yF a b c N).sg (c j) = gI a b c j → 0 ≤ lI a c (c j) N ∧ gI a b c (lI a c (c j) N) = gI a b c j ∧ 0 ≤ gI a b c j := by
    intro j j0 j1 s2 sg
    have w := so (c j)
    refine ⟨w.1.mpr s2, ?_, hg j j0 j1 s2 sg⟩
    rw [← w.2 s2]; exact sg
  have cur : ∀ j : Int, 0 ≤ j → j < N → uOK (yF a b c N) (iK (a j)) (c j) (gI a b c j) := by
    intro j j0 j1
    have := ok j.toNat (by omega)
    rw [show ((j.toNat : Nat) : Int) = j by omega] at this
    unfold gI
    rw [show (j + 1).toNat = j.toNat + 1 by omega]
    exact this
  refine ⟨fun j j0 j1 t => ?_, fun j j0 j1 t => ?_, h5⟩
  · have u := (cur j j0 j1).2.2.2.1 (by rw [t]; rfl)
    rcases u with ⟨s2, sg⟩ | s3
    · exact Or.inr (here j j0 j1 s2 sg)
    · exact Or.inl s3
  · have u := (cur j j0 j1).2.2.1 (by rw [t]; rfl)
    exact here j j0 j1 u.1 u.2
/-! X: what is written into a module, item by item -/
/-- code; fixups: kinds, segments, places, names, how many -/
def MD : Type := (Int → Int) × (Int → Int) × (Int → Int) × (Int → Int) × (Int → Int) × Int
def MD.co (d : MD) : Int → Int := d.1
def MD.fk (d : MD) : Int → Int := d.2.1
def MD.fs (d : MD) : Int → Int := d.2.2.1
def MD.fp (d : MD) : Int → Int := d.2.2.2.1
def MD.fn (d : MD) : Int → Int := d.2.2.2.2.1
def MD.nf (d : MD) : Int := d.2.2.2.2.2
def mB (d : MD) (i v : Int) : MD := (zu d.co i (v % 256), d.2)
def mW (d : MD) (i v : Int) : MD := mB (mB d i v) (i + 1) (v / 256)
def mF (d : MD) (k s p n : Int) : MD := (d.co, zu d.fk d.nf k, zu d.fs d.nf s, zu d.fp d.nf p, zu d.fn d.nf n, d.nf + 1)
def mD0 : MD := (fun _ => 0, fun _ => 0, fun _ => 0, fun _ => 0, fun _ => 0, 0)
/-- where a segment begins -/
def stS (a b g X : Int → Int) (N : Nat) (s : Int) : Int := psum (fun s => oS a b g X s N) s.toNat
/-- where a label lies -/
def loS (a b c g X : Int → Int) (N : Nat) (n : Int) : Int := oS a b g X (g (lI a c n N)) (lI a c n N).toNat
def ofS (a b g X : Int → Int) (i : Int) : Int := oS a b g X (g i) i.toNat
/-- a near address -/
def mNe (a b c g X r : Int → Int) (N : Nat) (d : MD) (i : Int) : MD := if r (c i) = 3 then mF d 2 (g i) (ofS a b g X i + 1) (c i) else mW d (stS a b g X N (g i) + (ofS a b g X i + 1)) (dS a b c g X N i)
/-- an offset, at place o -/
def mOf (a b c g X r : Int → Int) (N : Nat) (d : MD) (i o v : Int) : MD := mF (mW d (stS a b g X N (g i) + o) (v + (if r (c i) = 2 then loS a b c g X N (c i) else 0))) 0 (g i) o (c i)
/-- an item -/
def mI (a b c g X r : Int → Int) (N : Nat) (d : MD) (i : Int) : MD := if g i < 0 then d else if a i = 4 then mB d (stS a b g X N (g i) + ofS a b g X i) (b i) else if a i = 6 then mW d (stS a b g X N (g i) + ofS a b g X i) (b i) else if a i = 7 then mOf a b c g X r N d i (ofS a b g X i) (b i) else if a i = 8 then mF d 1 (g i) (ofS a b g X i) (c i) else if a i = 9 then (if X i = 0 then mB (mB d (stS a b g X N (g i) + ofS a b g X i) 235) (stS a b g X N (g i) + (ofS a b g X i + 1)) (dS a b c g X N i) else mNe a b c g X r N (mB d (stS a b g X N (g i) + ofS a b g X i) 233) i) else if a i = 10 then mB (mB d (stS a b g X N (g i) + ofS a b g X i) (b i)) (stS a b g X N (g i) + (ofS a b g X i + 1)) (dS a b c g X N i) else if a i = 11 then mNe a b c g X r N (mB d (stS a b g X N (g i) + ofS a b g X i) 232) i else if a i = 12 then mF (mOf a b c g X r N (mB d (stS a b g X N (g i) + ofS a b g X i) 154) i (ofS a b g X i + 1) (b i)) 1 (g i) (ofS a b g X i + 3) (c i) else d
def mK (a b c g X r : Int → Int) (N : Nat) : Nat → MD
  | 0 => mD0
  | k + 1 => mI a b c g X r N (mK a b c g X r N k) k
/-- the class's module holds d -/
def MC (nw tg : Int → Int) (σ : ZS) (m : Int) (d : MD) : Prop := (∀ j : Int, 0 ≤ j → j < 400 → zA σ m 6 j = d.co j) ∧ zI σ m 7 = d.nf ∧ (∀ k : Int, 0 ≤ k → k < d.nf → zA σ m 8 k = d.fk k ∧ zA σ m 9 k = d.fs k ∧ zA σ m 10 k = d.fp k ∧ zA σ m 11 k = tg (d.fn k) ∧ zA σ m 12 k = nw (d.fn k))
/-- what else a module has stays -/
def Kg (m : Int) (σ τ : ZS) : Prop := (zI τ m 0 = zI σ m 0 ∧ zI τ m 1 = zI σ m 1 ∧ zI τ m 13 = zI σ m 13) ∧ (zA τ m 2 = zA σ m 2 ∧ zA τ m 3 = zA σ m 3 ∧ zA τ m 4 = zA σ m 4 ∧ zA τ m 5 = zA σ m 5 ∧ zA τ m 14 = zA σ m 14 ∧ zA τ m 15 = zA σ m 15 ∧ zA τ m 16 = zA σ m 16)
theorem Kg.rf {m : Int} {σ : ZS} : Kg m σ σ := ⟨⟨rfl, rfl, rfl⟩, rfl, rfl, rfl, rfl, rfl, rfl, rfl⟩
theorem Kg.tr {m : Int} {σ τ υ : ZS} (h : Kg m σ τ) (k : Kg m τ υ) : Kg m σ υ := by
  obtain ⟨⟨a1, a2, a3⟩, b1, b2, b3, b4, b5, b6, b7⟩ := h
  obtain ⟨⟨c1, c2, c3⟩, d1, d2, d3, d4, d5, d6, d7⟩ := k
  exact ⟨⟨c1.trans a1, c2.trans a2, c3.trans a3⟩, d1.trans b1, d2.trans b2, d3.trans b3, d4.trans b4, d5.trans b5, d6.trans b6, d7.trans b7⟩
theorem x_putByte {m s o b A : Int} {nw tg : Int → Int} {d : MD} {σ : ZS} {Q : ZS → Prop} (hg : 0 ≤ m ∧ m ≤ 2) (h : MO σ m) (hs : 0 ≤ s ∧ s < zI σ m 1) (hA : zA σ m 5 s + o = A) (hl : 0 ≤ o ∧ A < 400) (hc : MC nw tg σ m d) (hQ : ∀ τ : ZS, MO τ m → kp [m] σ τ → Kg m σ τ → MC nw tg τ m (mB d A b) → Q τ) : wpX6_putByte m s o b σ Q := by
  have h1 := h.2.1
  have h5 := h.2.2.2.2.1 s hs.1 hs.2
  have g := c_putByte (b := b) (Q := fun τ => MO τ m ∧ kp [m] σ τ) hg h (show 0 ≤ s ∧ s < 24 by omega) (show 0 ≤ o ∧ o ≤ 21000 by omega) (fun τ a b _ => ⟨a, b⟩)
  unfold wpX6_putByte wpX6_putByte_40 at g ⊢
  obtain ⟨g1, g2, g3, g4, g5⟩ := g
  refine ⟨g1, g2, g3, fun q => absurd q (by omega), fun q => ⟨(g5 q).1, (g5 q).2.1, fun q' => absurd q' (by omega), fun q' => ⟨((g5 q).2.2.2 q').1, ?_⟩⟩⟩
  have r := ((g5 q).2.2.2 q').2
  rw [hA] at r ⊢
  refine hQ _ r.1 r.2 ⟨⟨rfl, rfl, rfl⟩, zA_f (by decide), zA_f (by decide), zA_f (by decide), zA_f (by decide), zA_f (by decide), zA_f (by decide), zA_f (by decide)⟩ ⟨fun j j0 j1 => ?_, hc.2.1, fun k k0 k1 => ?_⟩
  · rw [zA_s]
    show zu (zA σ m 6) A (b % 256) j = zu d.co A (b % 256) j
    by_cases e : j = A
    · rw [e, pu_eq, pu_eq]
    · rw [pu_ne e, pu_ne e]; exact hc.1 j j0 j1
  · rw [zA_f (by decide), zA_f (by decide), zA_f (by decide), zA_f (by decide), zA_f (by decide)]
    exact hc.2.2 k k0 k1
theorem x_putWord {m s o b A : Int} {nw tg : Int → Int} {d : MD} {σ : ZS} {Q : ZS → Prop} (hg : 0 ≤ m ∧ m ≤ 2) (h : MO σ m) (hs : 0 ≤ s ∧ s < zI σ m 1) (hA : zA σ m 5 s + o = A) (hl : 0 ≤ o ∧ A + 1 < 400) (hb : -2147483648 ≤ b ∧ b ≤ 2147483647) (hc : MC nw tg σ m d) (hQ : ∀ τ : ZS, MO τ m → kp [m] σ τ → Kg m σ τ → MC nw tg τ m (mW d A b) → Q τ) : wpX6_putWord m s o b σ Q := by
  unfold wpX6_putWord
  refine ⟨hg, x_putByte hg h hs hA (by omega) hc (fun τ tm tk tg' tc => ⟨hb, ?_⟩)⟩
  have e1 := tg'.1.2.1
  have e5 := tg'.2.2.2.2.1
  exact x_putByte (A := A + 1) hg tm (by rw [e1]; exact hs) (by rw [e5]; omega) (by omega) tc (fun υ um uk ug uc => hQ υ um (tk.tr uk) (tg'.tr ug) uc)
theorem x_addFixup {m t s p n : Int} {nw tg : Int → Int} {d : MD} {σ : ZS} {Q : ZS → Prop} (hg : 0 ≤ m ∧ m ≤ 2) (h : MO σ m) (ht : 0 ≤ t ∧ t ≤ 2) (hs : 0 ≤ s ∧ s < 24) (hp : 0 ≤ p ∧ p ≤ 20010) (ha : -1 ≤ tg n ∧ tg n < 24) (hw : 0 ≤ nw n ∧ nw n ≤ 4398046511103) (hlt : d.nf < 200) (hc : MC nw tg σ m d) (hQ : ∀ τ : ZS, MO τ m → kp [m] σ τ → Kg m σ τ → MC nw tg τ m (mF d t s p n) → Q τ) : wpX6_addFixup m t s p (tg n) (nw n) σ Q := by
  have g := c_addFixup (Q := fun τ => MO τ m ∧ kp [m] σ τ) hg h ht hs hp ha hw (fun τ a b _ => ⟨a, b⟩)
  have n7 := hc.2.1
  unfold wpX6_addFixup wpX6_addFixup_72 at g ⊢
  obtain ⟨g1, g2, g3, g4⟩ := g
  refine ⟨g1, g2, fun q => absurd q (by omega), fun q => ⟨(g4 q).1, ?_⟩⟩
  have r := (g4 q).2
  have key : ∀ τ : ZS, MO τ m → kp [m] σ τ → Kg m σ τ → zI τ m 7 = zI σ m 7 + 1 → zA τ m 6 = zA σ m 6 → zA τ m 8 = zu (zA σ m 8) (zI σ m 7) t → zA τ m 9 = zu (zA σ m 9) (zI σ m 7) s → zA τ m 10 = zu (zA σ m 10) (zI σ m 7) p → zA τ m 11 = zu (zA σ m 11) (zI σ m 7) (tg n) → zA τ m 12 = zu (zA σ m 12) (zI σ m 7) (nw n) → Q τ := by
    intro τ a b c e7 e6 e8 e9 e10 e11 e12
    refine hQ τ a b c ⟨by rw [e6]; exact hc.1, by rw [e7, n7]; rfl, fun k k0 k1 => ?_⟩
    have k1' : k < d.nf + 1 := k1
    rw [e8, e9, e10, e11, e12, n7]
    show _ = zu d.fk d.nf t k ∧ _ = zu d.fs d.nf s k ∧ _ = zu d.fp d.nf p k ∧ _ = tg (zu d.fn d.nf n k) ∧ _ = nw (zu d.fn d.nf n k)
    by_cases e : k = d.nf
    · rw [e, pu_eq, pu_eq, pu_eq, pu_eq, pu_eq, pu_eq, pu_eq, pu_eq, pu_eq]; exact ⟨rfl, rfl, rfl, rfl, rfl⟩
    · rw [pu_ne e, pu_ne e, pu_ne e, pu_ne e, pu_ne e, pu_ne e, pu_ne e, pu_ne e, pu_ne e]; exact hc.2.2 k k0 (by omega)
  clear hQ hc g4 g3
  obtain rfl | rfl | rfl : m = 0 ∨ m = 1 ∨ m = 2 := by omega
  · exact key _ r.1 r.2 ⟨⟨rfl, rfl, rfl⟩, rfl, rfl, rfl, rfl, rfl, rfl, rfl⟩ rfl rfl rfl rfl rfl rfl rfl
  · exact key _ r.1 r.2 ⟨⟨rfl, rfl, rfl⟩, rfl, rfl, rfl, rfl, rfl, rfl, rfl⟩ rfl rfl rfl rfl rfl rfl rfl
  · exact key _ r.1 r.2 ⟨⟨rfl, rfl, rfl⟩, rfl, rfl, rfl, rfl, rfl, rfl, rfl⟩ rfl rfl rfl rfl rfl rfl rfl
/-! X: the class writes an item, exactly -/
theorem oS_s {a b g X : Int → Int} {s i : Int} (h : 0 ≤ i) : oS a b g X s (i + 1).toNat = oS a b g X s i.toNat + (if g i = s then sI a b X i else 0) := by
  rw [show (i + 1).toNat = i.toNat + 1 by omega]
  show oS a b g X s i.toNat + (if g (i.toNat : Int) = s then sI a b X (i.toNat : Int) else 0) = _
  rw [show ((i.toNat : Nat) : Int) = i by omega]
theorem oS_fit {a b g X : Int → Int} {N : Nat} {i : Int} (hb : ∀ j : Nat, j < N → a j = 5 → 0 ≤ b j) (i0 : 0 ≤ i) (i1 : i < N) : 0 ≤ ofS a b g X i ∧ ofS a b g X i + sI a b X i ≤ oS a b g X (g i) N := by
  have h1 := (oS_mo (a := a) (b := b) (g := g) (X := X) (Y := X) (s := g i) (m := (i + 1).toNat) N (by omega) hb (fun _ _ q => q)).1
  have h2 := oS_s (a := a) (b := b) (g := g) (X := X) (s := g i) i0
  rw [if_pos rfl] at h2
  have h3 := oS_nn (a := a) (b := b) (g := g) (X := X) (s := g i) i.toNat (fun j hj => hb j (by omega))
  unfold ofS
  omega
/-- what stands while items are written into module m -/
def WX (a b c g r : Int → Int) (N : Nat) (m : Int) (σ : ZS) : Prop := LZ σ ∧ ZX a b c g σ ∧ Mz a b c g (xF σ) (zI σ 13 7) σ ∧ HJx a b c g r N ∧ zI σ 13 7 = N ∧ (∀ n : Int, 0 ≤ n → n < zI σ 11 5 → zA σ 11 1 n = r n) ∧ (∀ s : Int, 0 ≤ s → s < zI σ 15 4 → stS a b g (xF σ) N s + oS a b g (xF σ) s N ≤ 400) ∧ (∀ j : Int, 0 ≤ j → j < N → a j = 11 → r (c j) = 3 ∨ (0 ≤ lI a c (c j) N ∧ g (lI a c (c j) N) = g j ∧ 0 ≤ g j)) ∧ (∀ n : Int, 0 ≤ n → n < zI σ 11 5 → r n = 2 → 0 ≤ lI a c n N ∧ 0 ≤ g (lI a c n N))
def WM (a b g : Int → Int) (N : Nat) (m : Int) (σ : ZS) : Prop := zI σ m 1 = zI σ 15 4 ∧ ∀ s : Int, 0 ≤ s → s < zI σ 15 4 → zA σ m 5 s = stS a b g (xF σ) N s
theorem WX.k {a b c g r : Int → Int} {N : Nat} {m : Int} {σ τ : ZS} (h : WX a b c g r N m σ) (hm : 0 ≤ m ∧ m ≤ 2) (k : kp [m] σ τ) : WX a b c g r N m τ ∧ xF τ = xF σ := by
  obtain ⟨h1, h2, h3, h4, h5, h6, h7, h8, h9⟩ := h
  have e11 := k 11 (n_1 (by omega)); have e13 := k 13 (n_1 (by omega)); have e15 := k 15 (n_1 (by omega))
  have x : xF τ = xF σ := xF_eq (ob_A e13 1)
  refine ⟨⟨h1.kg hm k, ?_, ?_, h4, (ob_I e13 7).trans h5, ?_, ?_, h8, ?_⟩, x⟩
  · unfold ZX; rw [ob_A e13 0, ob_A e13 1, ob_A e13 2, ob_A e13 5, ob_I e13 7]; exact h2
  · rw [x]; unfold Mz; rw [ob_I e13 7, ob_A e15 3, ob_A e13 6, ob_A e11 4]; exact h3
  · rw [ob_I e11 5, ob_A e11 1]; exact h6
  · rw [ob_I e15 4, x]; exact h7
  · rw [ob_I e11 5]; exact h9
theorem WM.k {a b g : Int → Int} {N : Nat} {m : Int} {σ τ : ZS} (h : WM a b g N m σ) (hm : 0 ≤ m ∧ m ≤ 2) (k : kp [m] σ τ) (kg : Kg m σ τ) : WM a b g N m τ := by
  have e13 := k 13 (n_1 (by omega)); have e15 := k 15 (n_1 (by omega))
  have x : xF τ = xF σ := xF_eq (ob_A e13 1)
  unfold WM
  rw [kg.1.2.1, kg.2.2.2.2.1, ob_I e15 4, x]; exact h
theorem x_writeItem {a b c g r : Int → Int} {N : Nat} {m i : Int} {d : MD} {σ : ZS} {Q : ZS → Prop} (hm : 0 ≤ m ∧ m ≤ 2) (hW : WX a b c g r N m σ) (hM : WM a b g N m σ) (mo : MO σ m) (hi : 0 ≤ i ∧ i < N) (hg : 0 ≤ g i) (h2i : a i ≠ 2) (hf : 0 ≤ d.nf ∧ 2 * d.nf + sI a b (xF σ) i ≤ 400) (hc : MC (zA σ 11 0) (zA σ 11 2) σ m d) (hsh : a i = 9 → xF σ i = 0 → r (c i) ≠ 3) (hQ : ∀ τ : ZS, MO τ m → kp [m] σ τ → Kg m σ τ → MC (zA σ 11 0) (zA σ 11 2) τ m (mI a b c g (xF σ) r N d i) → Q τ) : wpX2_writeItem m i σ Q := by
  obtain ⟨h1, h2, h3, h4, h5, h6, h7, h8, h9⟩ := id hW
  have hz := h1.1.sz
  have hfw := h1.few
  have iN : i < zI σ 13 7 := by omega
  have hd := h1.2.1 i hi.1 iN
  have e5 : zA σ 13 5 i = g i := h2.2.2.1 i hi.1 iN
  have e0 : zA σ 13 0 i = a i := by rw [h2.1]
  have e2 : zA σ 13 2 i = c i := by rw [h2.2.1]
  have e6 : zA σ 13 6 i = ofS a b g (xF σ) i := h3.2.1 i hi.1 iN hg
  obtain ⟨i1, i2, i3, i4, i5, i6, i7, i8, i9, i10⟩ := h1.1.it hi.1 iN
  have hN := h1.1.2.1.1
  have fit := oS_fit (a := a) (b := b) (g := g) (X := xF σ) h4.2.2 hi.1 hi.2
  have h15 := h1.1.2.2.2.1
  have sgb : 0 ≤ g i ∧ g i < zI σ 15 4 := by omega
  have st := h7 (g i) sgb.1 sgb.2
  have st5 := hM.2 (g i) sgb.1 sgb.2
  have st0 : 0 ≤ stS a b g (xF σ) N (g i) := psum_nn _ (fun j _ _ => oS_nn N h4.2.2)
  have hs1 : 0 ≤ g i ∧ g i < zI σ m 1 := by have := hM.1; omega
  rw [e0] at i1 i6 i8 i9
  rw [e2] at i3 i6 i7
  have vv : a i ≠ 9 → zA σ 13 1 i = b i := h2.2.2.2 i hi.1 iN
  have dnf := hf
  -- bytes
  have pB : ∀ (o v : Int) (υ : ZS) (d' : MD) (R : ZS → Prop), 0 ≤ o → o < ofS a b g (xF σ) i + sI a b (xF σ) i → MO υ m → kp [m] σ υ → Kg m σ υ → MC (zA σ 11 0) (zA σ 11 2) υ m d' → (∀ τ : ZS, MO τ m → kp [m] σ τ → Kg m σ τ → MC (zA σ 11 0) (zA σ 11 2) τ m (mB d' (stS a b g (xF σ) N (g i) + o) v) → R τ) → wpX6_putByte m (g i) o v υ R := by
    intro o v υ d' R o0 o1 um uk ug uc hR
    refine x_putByte (A := stS a b g (xF σ) N (g i) + o) hm um (by rw [ug.1.2.1]; exact hs1) (by rw [ug.2.2.2.2.1, st5]) (by omega) uc (fun τ tm tk tg tc => hR τ tm (uk.tr tk) (ug.tr tg) tc)
  have pW : ∀ (o v : Int) (υ : ZS) (d' : MD) (R : ZS → Prop), 0 ≤ o → o + 1 < ofS a b g (xF σ) i + sI a b (xF σ) i → (-2147483648 ≤ v ∧ v ≤ 2147483647) → MO υ m → kp [m] σ υ → Kg m σ υ → MC (zA σ 11 0) (zA σ 11 2) υ m d' → (∀ τ : ZS, MO τ m → kp [m] σ τ → Kg m σ τ → MC (zA σ 11 0) (zA σ 11 2) τ m (mW d' (stS a b g (xF σ) N (g i) + o) v) → R τ) → wpX6_putWord m (g i) o v υ R := by
    intro o v υ d' R o0 o1 hv um uk ug uc hR
    refine x_putWord (A := stS a b g (xF σ) N (g i) + o) hm um (by rw [ug.1.2.1]; exact hs1) (by rw [ug.2.2.2.2.1, st5]) (by omega) hv uc (fun τ tm tk tg tc => hR τ tm (uk.tr tk) (ug.tr tg) tc)
  -- a fixup
  have pF : ∀ (t o : Int) (υ : ZS) (d' : MD) (R : ZS → Prop), 0 ≤ c i → (0 ≤ t ∧ t ≤ 2) → (0 ≤ o ∧ o ≤ 20010) → d'.nf < 200 → MO υ m → kp [m] σ υ → Kg m σ υ → MC (zA σ 11 0) (zA σ 11 2) υ m d' → (∀ τ : ZS, MO τ m → kp [m] σ τ → Kg m σ τ → MC (zA σ 11 0) (zA σ 11 2) τ m (mF d' t (g i) o (c i)) → R τ) → wpX2_writeFixup m i o t υ R := by
    intro t o υ d' R hn ht ho hlt um uk ug uc hR
    have k11 := uk 11 (n_1 (by omega)); have k13 := uk 13 (n_1 (by omega))
    have sg := h1.sg hn i3.2
    have nw := (h1.1.1 (c i) hn (by omega)).1
    unfold wpX2_writeFixup
    rw [ob_A k13 2, ob_A k13 5, ob_A k11 2, ob_A k11 0, e2, e5]
    exact ⟨by omega, by omega, hm, x_addFixup (nw := zA σ 11 0) (tg := zA σ 11 2) hm um ht (by omega) ho sg nw hlt uc (fun τ tm tk tg tc => hR τ tm (uk.tr tk) (ug.tr tg) tc)⟩
  -- an offset
  have pO : ∀ (o : Int) (υ : ZS) (d' : MD) (R : ZS → Prop), 0 ≤ c i → a i ≠ 9 → 0 ≤ o → o + 1 < ofS a b g (xF σ) i + sI a b (xF σ) i → d'.nf < 200 → MO υ m → kp [m] σ υ → Kg m σ υ → MC (zA σ 11 0) (zA σ 11 2) υ m d' → (∀ τ : ZS, MO τ m → kp [m] σ τ → Kg m σ τ → MC (zA σ 11 0) (zA σ 11 2) τ m (mOf a b c g (xF σ) r N d' i o (b i)) → R τ) → wpX2_writeOffset m i o υ R := by
    intro o υ d' R hn n9 o0 o1 hlt um uk ug uc hR
    have k11 := uk 11 (n_1 (by omega)); have k13 := uk 13 (n_1 (by omega))
    have rr := h6 (c i) hn i3.2
    have hr := h1.1.1 (c i) hn (by omega)
    have v9 := vv n9
    have f39 : ∀ x : Int, (0 ≤ x ∧ x ≤ 20000) → x = (if r (c i) = 2 then loS a b c g (xF σ) N (c i) else 0) → wpX2_writeOffset_39 m i o x υ R := by
      intro x hx ex
      unfold wpX2_writeOffset_39
      rw [ob_A k13 5, ob_A k13 1, e5, vv n9]
      refine ⟨by omega, hm, pW o (b i + x) υ d' _ o0 o1 (by omega) um uk ug uc (fun τ tm tk tg tc => ?_)⟩
      refine pF 0 o τ (mW d' (stS a b g (xF σ) N (g i) + o) (b i + x)) _ hn (by decide) (by omega) hlt tm tk tg tc (fun ω wm wk wg wc => hR ω wm wk wg ?_)
      unfold mOf
      rw [← ex]; exact wc
    unfold wpX2_writeOffset
    rw [ob_A k13 2, ob_A k11 1, ob_A k11 4, e2, rr]
    refine ⟨by omega, by omega, by omega, fun n2 => f39 0 (by decide) (by rw [if_neg n2]), fun y2 => f39 _ hr.2.2.2.2 ?_⟩
    rw [if_pos y2]
    have lab := h9 (c i) hn i3.2 y2
    exact (h3.2.2 (c i) (by rw [h5]; exact lab.1) (by rw [h5]; exact lab.2)).trans (by unfold loS; rw [h5]; rfl)
  -- a distance
  have pD : ∀ (υ : ZS) (R : Int → ZS → Prop), 0 ≤ c i → kp [m] σ υ → (0 ≤ lI a c (c i) N ∧ g (lI a c (c i) N) = g i ∧ 0 ≤ g i) → ((-30000 ≤ dS a b c g (xF σ) N i ∧ dS a b c g (xF σ) N i ≤ 30000) → R (dS a b c g (xF σ) N i) υ) → wpX2_distance i υ R := by
    intro υ R hn uk hl hR
    obtain ⟨⟨u1, u2, u3, u4, u5, u6, u7, u8, u9⟩, ux⟩ := hW.k hm uk
    have k13 := uk 13 (n_1 (by omega))
    refine x_distance (X := xF σ) u1.1 u2 (by rw [← ux]; exact u3) (by rw [ux]) (by omega) (by rw [u5]; exact hl) (by rw [ob_A k13 2, e2]; exact hn) ?_
    rw [u5]
    exact hR
  -- a near address
  have pN : ∀ (υ : ZS) (d' : MD) (R : ZS → Prop), 0 ≤ c i → (r (c i) = 3 ∨ (0 ≤ lI a c (c i) N ∧ g (lI a c (c i) N) = g i ∧ 0 ≤ g i)) → sI a b (xF σ) i = 3 → d'.nf < 200 → MO υ m → kp [m] σ υ → Kg m σ υ → MC (zA σ 11 0) (zA σ 11 2) υ m d' → (∀ τ : ZS, MO τ m → kp [m] σ τ → Kg m σ τ → MC (zA σ 11 0) (zA σ 11 2) τ m (mNe a b c g (xF σ) r N d' i) → R τ) → wpX2_writeNear m i υ R := by
    intro υ d' R hn hl s3 hlt um uk ug uc hR
    obtain ⟨⟨u1, u2, u3, u4, u5, u6, u7, u8, u9⟩, ux⟩ := hW.k hm uk
    have k11 := uk 11 (n_1 (by omega)); have k13 := uk 13 (n_1 (by omega))
    have rr := h6 (c i) hn i3.2
    unfold wpX2_writeNear wpX2_writeNear_50
    refine ⟨by omega, x_isExtern u1.1 (by omega) (by rw [ob_A k13 2, e2]; exact hn) (fun x3 => ⟨by decide, fun q => absurd q (by decide), fun _ => ?_⟩) (fun x3 => ⟨by decide, fun _ => ?_, fun q => absurd rfl q⟩)⟩
    · rw [ob_A k11 1, ob_A k13 2, e2, rr] at x3
      rw [ob_A k13 6, e6]
      refine pF 2 _ υ d' R hn (by decide) (by omega) hlt um uk ug uc (fun τ tm tk tg tc => hR τ tm tk tg ?_)
      unfold mNe
      rw [if_pos x3]; exact tc
    · rw [ob_A k11 1, ob_A k13 2, e2, rr] at x3
      refine pD υ _ hn uk (hl.resolve_left x3) (fun db => ⟨hm, ?_⟩)
      rw [ob_A k13 6, ob_A k13 5, e6, e5]
      refine pW _ _ υ d' R (by omega) (by omega) (by omega) um uk ug uc (fun τ tm tk tg tc => hR τ tm tk tg ?_)
      unfold mNe
      rw [if_neg x3]; exact tc
  have ng : ¬ g i < 0 := by omega
  unfold wpX2_writeItem wpX2_writeItem_227
  rw [e0, e5, e6]
  unfold mI at hQ
  rw [if_neg ng] at hQ
  refine ⟨by omega, by omega, fun t => ?_, fun n4 => ⟨fun t => ?_, fun n5 => ⟨fun t => ?_, fun n6 => ?_⟩⟩⟩
  · rw [if_pos t] at hQ
    have s1 : sI a b (xF σ) i = 1 := by unfold sI; rw [if_pos t]
    rw [vv (by omega)]
    exact ⟨hm, pB _ _ σ d _ fit.1 (by omega) mo kp.rf Kg.rf hc hQ⟩
  · rw [if_neg n4, if_neg (by omega), if_neg (by omega), if_neg (by omega), if_neg (by omega), if_neg (by omega), if_neg (by omega), if_neg (by omega)] at hQ
    exact hQ σ mo kp.rf Kg.rf hc
  · rw [if_neg n4, if_pos t] at hQ
    have s1 : sI a b (xF σ) i = 2 := by unfold sI; rw [if_neg n4, if_neg n5, if_neg (by omega), if_pos (by omega)]
    have v9 := vv (by omega)
    rw [vv (by omega)]
    exact ⟨hm, pW _ _ σ d _ fit.1 (by omega) (by omega) mo kp.rf Kg.rf hc hQ⟩
  have hn := i6 n4 n5 n6
  rw [if_neg n4, if_neg n6] at hQ
  refine ⟨fun t => ?_, fun n7 => ⟨fun t => ?_, fun n8 => ⟨fun t => ?_, fun n9 => ⟨fun t => ?_, fun n10 => ⟨fun t => ?_, fun n11 => ⟨fun t => ?_, fun n12 => ?_⟩⟩⟩⟩⟩⟩
  · rw [if_pos t] at hQ
    have s1 : sI a b (xF σ) i = 2 := by unfold sI; rw [if_neg n4, if_neg n5, if_neg (by omega), if_pos (by omega)]
    exact pO _ σ d _ hn (by omega) fit.1 (by omega) (by omega) mo kp.rf Kg.rf hc hQ
  · rw [if_neg n7, if_pos t] at hQ
    have s1 : sI a b (xF σ) i = 2 := by unfold sI; rw [if_neg n4, if_neg n5, if_neg (by omega), if_pos (by omega)]
    exact pF 1 _ σ d _ hn (by decide) (by omega) (by omega) mo kp.rf Kg.rf hc hQ
  · rw [if_neg n7, if_neg n8, if_pos t] at hQ
    unfold wpX2_writeJump wpX2_writeJump_77
    have v9 := i9 t
    rw [e5, e6]
    refine ⟨by omega, by omega, fun n3 => ⟨hm, ?_⟩, fun y3 => ⟨hm, ?_⟩⟩
    · have x0 : xF σ i = 0 := by unfold xF; rw [if_pos (by omega)]
      have s2 : sI a b (xF σ) i = 2 := by unfold sI; rw [if_neg n4, if_neg n5, if_pos t, if_pos x0]
      rw [if_pos x0] at hQ
      have hl : 0 ≤ lI a c (c i) N ∧ g (lI a c (c i) N) = g i ∧ 0 ≤ g i := (h4.1 i hi.1 hi.2 t).resolve_left (hsh t x0)
      refine pB _ _ σ d _ fit.1 (by omega) mo kp.rf Kg.rf hc (fun τ tm tk tg tc => pD τ _ hn tk hl (fun db => ?_))
      exact pB _ _ τ _ _ (by omega) (by omega) tm tk tg tc hQ
    · have x0 : ¬ xF σ i = 0 := by unfold xF; rw [if_neg (by omega)]; decide
      have s3 : sI a b (xF σ) i = 3 := by unfold sI; rw [if_neg n4, if_neg n5, if_pos t, if_neg x0]
      rw [if_neg x0] at hQ
      exact pB _ _ σ d _ fit.1 (by omega) mo kp.rf Kg.rf hc (fun τ tm tk tg tc => pN τ (mB d (stS a b g (xF σ) N (g i) + ofS a b g (xF σ) i) 233) _ hn (h4.1 i hi.1 hi.2 t) s3 (by show d.nf < 200; omega) tm tk tg tc hQ)
  · rw [if_neg n7, if_neg n8, if_neg n9, if_pos t] at hQ
    have s2 : sI a b (xF σ) i = 2 := by unfold sI; rw [if_neg n4, if_neg n5, if_neg n9, if_pos (by omega)]
    rw [vv n9]
    refine ⟨hm, pB _ _ σ d _ fit.1 (by omega) mo kp.rf Kg.rf hc (fun τ tm tk tg tc => pD τ _ hn tk (h4.2.1 i hi.1 hi.2 t) (fun db => ?_))⟩
    exact pB _ _ τ _ _ (by omega) (by omega) tm tk tg tc hQ
  · rw [if_neg n7, if_neg n8, if_neg n9, if_neg n10, if_pos t] at hQ
    have s3 : sI a b (xF σ) i = 3 := by unfold sI; rw [if_neg n4, if_neg n5, if_neg n9, if_neg (by omega), if_pos t]
    exact ⟨hm, pB _ _ σ d _ fit.1 (by omega) mo kp.rf Kg.rf hc (fun τ tm tk tg tc => pN τ (mB d (stS a b g (xF σ) N (g i) + ofS a b g (xF σ) i) 232) _ hn (h8 i hi.1 hi.2 t) s3 (by show d.nf < 200; omega) tm tk tg tc hQ)⟩
  · rw [if_neg n7, if_neg n8, if_neg n9, if_neg n10, if_neg n11, if_pos t] at hQ
    have s5 : sI a b (xF σ) i = 5 := by unfold sI; rw [if_neg n4, if_neg n5, if_neg n9, if_neg (by omega), if_neg n11, if_pos t]
    refine ⟨hm, pB _ _ σ d _ fit.1 (by omega) mo kp.rf Kg.rf hc (fun τ tm tk tg tc => ?_)⟩
    refine pO _ τ (mB d (stS a b g (xF σ) N (g i) + ofS a b g (xF σ) i) 154) _ hn n9 (by omega) (by omega) (by show d.nf < 200; omega) tm tk tg tc (fun υ um uk ug uc => ?_)
    exact pF 1 _ υ (mOf a b c g (xF σ) r N (mB d (stS a b g (xF σ) N (g i) + ofS a b g (xF σ) i) 154) i (ofS a b g (xF σ) i + 1) (b i)) _ hn (by decide) (by omega) (by show d.nf + 1 < 200; omega) um uk ug uc hQ
  · rw [if_neg n7, if_neg n8, if_neg n9, if_neg n10, if_neg n11, if_neg n12] at hQ
    exact hQ σ mo kp.rf Kg.rf hc
/-! X: the class writes a module, exactly -/
theorem psum_0 : ∀ n : Nat, psum (fun _ => 0) n = 0
  | 0 => rfl
  | n + 1 => by
    show psum (fun _ => 0) n + 0 = 0
    rw [psum_0 n]; rfl
theorem psum_at {v a : Int} : ∀ n : Nat, psum (fun s => if a = s then v else 0) n = if 0 ≤ a ∧ a < n then v else 0
  | 0 => by
    show (0 : Int) = _
    rw [if_neg (by omega)]
  | n + 1 => by
    show psum (fun s => if a = s then v else 0) n + (if a = (n : Int) then v else 0) = _
    rw [psum_at n]
    by_cases e : a = (n : Int)
    · rw [if_pos e, if_neg (by omega), if_pos (by omega)]; omega
    · rw [if_neg e]
      by_cases q : 0 ≤ a ∧ a < n
      · rw [if_pos q, if_pos (by omega)]; omega
      · rw [if_neg q, if_neg (by omega)]; rfl
/-- what items have taken, in all segments -/
def tS (a b g X : Int → Int) : Nat → Int
  | 0 => 0
  | k + 1 => tS a b g X k + (if g k < 0 then 0 else sI a b X k)
theorem tS_eq {a b g X : Int → Int} {ns : Nat} : ∀ k : Nat, (∀ j : Nat, j < k → g j < ns) → tS a b g X k = psum (fun s => oS a b g X s k) ns
  | 0, _ => (psum_0 ns).symm
  | k + 1, h => by
    show tS a b g X k + (if g k < 0 then 0 else sI a b X k) = psum (fun s => oS a b g X s k + (if g k = s then sI a b X k else 0)) ns
    rw [psum_add, psum_at, ← tS_eq k (fun j hj => h j (by omega))]
    have := h k (by omega)
    by_cases q : g k < 0
    · rw [if_pos q, if_neg (by omega)]
    · rw [if_neg q, if_pos (by omega)]
theorem tS_mo {a b g X : Int → Int} {m : Nat} : ∀ k : Nat, m ≤ k → (∀ j : Nat, j < k → a j = 5 → 0 ≤ b j) → tS a b g X m ≤ tS a b g X k
  | 0, h, _ => by rw [show m = 0 by omega]; exact Int.le_refl _
  | k + 1, h, hb => by
    by_cases e : m = k + 1
    · rw [e]; exact Int.le_refl _
    · have ih := tS_mo (a := a) (b := b) (g := g) (X := X) (m := m) k (by omega) (fun j hj => hb j (by omega))
      have s0 := sI_nn (X := X) (hb k (by omega))
      show tS a b g X m ≤ tS a b g X k + (if g k < 0 then 0 else sI a b X k)
      split <;> omega
theorem mNe_nf {a b c g X r : Int → Int} {N : Nat} {d : MD} {i : Int} : d.nf ≤ (mNe a b c g X r N d i).nf ∧ (mNe a b c g X r N d i).nf ≤ d.nf + 1 := by
  unfold mNe
  split
  · show d.nf ≤ d.nf + 1 ∧ d.nf + 1 ≤ d.nf + 1
    omega
  · show d.nf ≤ d.nf ∧ d.nf ≤ d.nf + 1
    omega
theorem mI_nf {a b c g X r : Int → Int} {N : Nat} {d : MD} {i : Int} (hb : a i = 5 → 0 ≤ b i) : d.nf ≤ (mI a b c g X r N d i).nf ∧ 2 * (mI a b c g X r N d i).nf ≤ 2 * d.nf + (if g i < 0 then 0 else sI a b X i) := by
  have s0 := sI_nn (X := X) hb
  unfold mI
  by_cases q : g i < 0
  · rw [if_pos q, if_pos q]; omega
  rw [if_neg q, if_neg q]
  have key : ∀ e : MD, e.nf = d.nf → d.nf ≤ e.nf ∧ 2 * e.nf ≤ 2 * d.nf + sI a b X i := fun e h => by omega
  by_cases n4 : a i = 4
  · rw [if_pos n4]; exact key _ rfl
  rw [if_neg n4]
  by_cases n6 : a i = 6
  · rw [if_pos n6]; exact key _ rfl
  rw [if_neg n6]
  by_cases n7 : a i = 7
  · rw [if_pos n7]
    have s2 : sI a b X i = 2 := by unfold sI; rw [if_neg n4, if_neg (by omega), if_neg (by omega), if_pos (by omega)]
    show d.nf ≤ d.nf + 1 ∧ 2 * (d.nf + 1) ≤ _
    omega
  rw [if_neg n7]
  by_cases n8 : a i = 8
  · rw [if_pos n8]
    have s2 : sI a b X i = 2 := by unfold sI; rw [if_neg n4, if_neg (by omega), if_neg (by omega), if_pos (by omega)]
    show d.nf ≤ d.nf + 1 ∧ 2 * (d.nf + 1) ≤ _
    omega
  rw [if_neg n8]
  by_cases n9 : a i = 9
  · rw [if_pos n9]
    by_cases x0 : X i = 0
    · rw [if_pos x0]; exact key _ rfl
    · rw [if_neg x0]
      have s3 : sI a b X i = 3 := by unfold sI; rw [if_neg n4, if_neg (by omega), if_pos n9, if_neg x0]
      have h := mNe_nf (a := a) (b := b) (c := c) (g := g) (X := X) (r := r) (N := N) (d := mB d (stS a b g X N (g i) + ofS a b g X i) 233) (i := i)
      have e : (mB d (stS a b g X N (g i) + ofS a b g X i) 233).nf = d.nf := rfl
      omega
  rw [if_neg n9]
  by_cases n10 : a i = 10
  · rw [if_pos n10]; exact key _ rfl
  rw [if_neg n10]
  by_cases n11 : a i = 11
  · rw [if_pos n11]
    have s3 : sI a b X i = 3 := by unfold sI; rw [if_neg n4, if_neg (by omega), if_neg n9, if_neg (by omega), if_pos n11]
    have h := mNe_nf (a := a) (b := b) (c := c) (g := g) (X := X) (r := r) (N := N) (d := mB d (stS a b g X N (g i) + ofS a b g X i) 232) (i := i)
    have e : (mB d (stS a b g X N (g i) + ofS a b g X i) 232).nf = d.nf := rfl
    omega
  rw [if_neg n11]
  by_cases n12 : a i = 12
  · rw [if_pos n12]
    have s5 : sI a b X i = 5 := by unfold sI; rw [if_neg n4, if_neg (by omega), if_neg n9, if_neg (by omega), if_neg n11, if_pos n12]
    show d.nf ≤ d.nf + 1 + 1 ∧ 2 * (d.nf + 1 + 1) ≤ _
    omega
  rw [if_neg n12]; exact key _ rfl
theorem mK_nf {a b c g X r : Int → Int} {N : Nat} : ∀ k : Nat, (∀ j : Nat, j < k → a j = 5 → 0 ≤ b j) → 0 ≤ (mK a b c g X r N k).nf ∧ 2 * (mK a b c g X r N k).nf ≤ tS a b g X k
  | 0, _ => ⟨Int.le_refl _, Int.le_refl _⟩
  | k + 1, hb => by
    have ih := mK_nf (a := a) (b := b) (c := c) (g := g) (X := X) (r := r) (N := N) k (fun j hj => hb j (by omega))
    have s := mI_nf (a := a) (b := b) (c := c) (g := g) (X := X) (r := r) (N := N) (d := mK a b c g X r N k) (i := k) (hb k (by omega))
    show 0 ≤ (mI a b c g X r N (mK a b c g X r N k) k).nf ∧ 2 * (mI a b c g X r N (mK a b c g X r N k) k).nf ≤ tS a b g X k + (if g k < 0 then 0 else sI a b X k)
    omega
theorem x_mclear {g : Int} {σ : ZS} {Q : ZS → Prop} (hg : 0 ≤ g ∧ g ≤ 2) (hQ : ∀ τ : ZS, MO τ g → kp [g] σ τ → zI τ g 0 = 0 → zI τ g 1 = 0 → zI τ g 7 = 0 → zI τ g 13 = 0 → (∀ i : Int, 0 ≤ i → i < 400 → zA τ g 6 i = 0) → Q τ) : wpX6_clear g σ Q := by
  unfold wpX6_clear
  refine ⟨hg, c_fillM hg (fun h hh => ?_)⟩
  have key : ∀ τ : ZS, kp [g] σ τ → zI τ g 0 = 0 → zI τ g 1 = 0 → zI τ g 7 = 0 → zI τ g 13 = 0 → zA τ g 6 = h → Q τ := by
    intro τ k e0 e1 e7 e13 e6
    refine hQ τ ⟨by omega, by omega, by omega, by omega, fun s s0 s1 => absurd s0 (by omega), fun i i0 i1 => ?_, fun s s0 s1 => absurd s0 (by omega), fun s s0 s1 => absurd s0 (by omega)⟩ k e0 e1 e7 e13 (fun i i0 i1 => by rw [e6]; exact hh i i0 i1)
    rw [e6, hh i i0 i1]; decide
  have kk : kp [g] σ (zsF (zsI (zsI (zsI (zsI σ g 0 0) g 1 0) g 7 0) g 13 0) g 6 h) := ((((kp.rf.ti m_1).ti m_1).ti m_1).ti m_1).tf m_1
  obtain rfl | rfl | rfl : g = 0 ∨ g = 1 ∨ g = 2 := by omega
  · exact key _ kk rfl rfl rfl rfl rfl
  · exact key _ kk rfl rfl rfl rfl rfl
  · exact key _ kk rfl rfl rfl rfl rfl
theorem x_addSegment {g w a z st : Int} {σ : ZS} {Q : ZS → Prop} (hg : 0 ≤ g ∧ g ≤ 2) (h : MO σ g) (hlt : zI σ g 1 < 24) (hw : 0 ≤ w ∧ w ≤ 4398046511103) (ha : al a) (hz : 0 ≤ z) (hs0 : zI σ g 1 = 0 → st = 0) (hs1 : 0 < zI σ g 1 → zA σ g 5 (zI σ g 1 - 1) + zA σ g 4 (zI σ g 1 - 1) = st) (h4 : 0 ≤ st ∧ st + z ≤ 400) (hQ : ∀ τ : ZS, MO τ g → kp [g] σ τ → (zI τ g 0 = zI σ g 0 ∧ zI τ g 1 = zI σ g 1 + 1 ∧ zI τ g 7 = zI σ g 7 ∧ zI τ g 13 = zI σ g 13) → (zA τ g 2 = zu (zA σ g 2) (zI σ g 1) w ∧ zA τ g 3 = zu (zA σ g 3) (zI σ g 1) a ∧ zA τ g 4 = zu (zA σ g 4) (zI σ g 1) z ∧ zA τ g 5 = zu (zA σ g 5) (zI σ g 1) st ∧ zA τ g 6 = zA σ g 6) → Q τ) : wpX6_addSegment g w a z σ Q := by
  obtain ⟨a0, a1, a7, a13, b1, b2, b3, b4⟩ := h
  have key : ∀ τ : ZS, kp [g] σ τ → zI τ g 0 = zI σ g 0 → zI τ g 1 = zI σ g 1 + 1 → zI τ g 7 = zI σ g 7 → zI τ g 13 = zI σ g 13 → zA τ g 2 = zu (zA σ g 2) (zI σ g 1) w → zA τ g 3 = zu (zA σ g 3) (zI σ g 1) a → zA τ g 4 = zu (zA σ g 4) (zI σ g 1) z → zA τ g 5 = zu (zA σ g 5) (zI σ g 1) st → (zA τ g 6 = zA σ g 6 ∧ zA τ g 8 = zA σ g 8 ∧ zA τ g 9 = zA σ g 9 ∧ zA τ g 10 = zA σ g 10 ∧ zA τ g 11 = zA σ g 11 ∧ zA τ g 12 = zA σ g 12 ∧ zA τ g 14 = zA σ g 14 ∧ zA τ g 15 = zA σ g 15 ∧ zA τ g 16 = zA σ g 16) → Q τ := by
    intro τ k e0 e1 e7 e13 f2 f3 f4 f5 ⟨f6, f8, f9, f10, f11, f12, f14, f15, f16⟩
    refine hQ τ ⟨by rw [e0]; exact a0, by omega, by rw [e7]; exact a7, by rw [e13]; exact a13, fun s s0 s1 => ?_, ?_, ?_, ?_⟩ k ⟨e0, e1, e7, e13⟩ ⟨f2, f3, f4, f5, f6⟩
    · rw [f2, f3, f4, f5]
      by_cases e : s = zI σ g 1
      · rw [e, pu_eq, pu_eq, pu_eq, pu_eq]; exact ⟨hw, ha, hz, h4.1, h4.2⟩
      · rw [pu_ne e, pu_ne e, pu_ne e, pu_ne e]; exact b1 s s0 (by omega)
    · unfold MBy; rw [f6]; exact b2
    · unfold MFx; rw [e7, f8, f9, f10, f11, f12]; exact b3
    · unfold MPb; rw [e13, f14, f15, f16]; exact b4
  have f44 : ∀ x : Int, x = st → wpX6_addSegment_44 g w a z x σ Q := by
    intro x hx
    rw [hx]
    unfold wpX6_addSegment_44 wpX6_addSegment_96
    refine ⟨hg, by omega, ?_⟩
    have kk : kp [g] σ (zsI (zsA (zsA (zsA (zsA σ g 2 (zI σ g 1) w) g 3 (zI σ g 1) a) g 4 (zI σ g 1) z) g 5 (zI σ g 1) st) g 1 ((zI σ g 1) + 1)) := ((((kp.rf.ta m_1).ta m_1).ta m_1).ta m_1).ti m_1
    clear hQ b1 b2 b3 b4 hs0 hs1
    obtain rfl | rfl | rfl : g = 0 ∨ g = 1 ∨ g = 2 := by omega
    · exact key _ kk rfl rfl rfl rfl rfl rfl rfl rfl ⟨rfl, rfl, rfl, rfl, rfl, rfl, rfl, rfl, rfl⟩
    · exact key _ kk rfl rfl rfl rfl rfl rfl rfl rfl ⟨rfl, rfl, rfl, rfl, rfl, rfl, rfl, rfl, rfl⟩
    · exact key _ kk rfl rfl rfl rfl rfl rfl rfl rfl ⟨rfl, rfl, rfl, rfl, rfl, rfl, rfl, rfl, rfl⟩
  unfold wpX6_addSegment
  exact ⟨hg, by omega, fun q => absurd q (by omega), fun _ => ⟨fun q => f44 0 (hs0 (by omega)).symm, fun q => ⟨by omega, f44 _ (hs1 (by omega))⟩⟩⟩
theorem addPublic_mo {g w s o : Int} {σ : ZS} (hg : 0 ≤ g ∧ g ≤ 2) (h : MO σ g) (lt : zI σ g 13 < 24) (hw : 0 ≤ w ∧ w ≤ 4398046511103) (hs : 0 ≤ s ∧ s < 24) (ho : 0 ≤ o ∧ o ≤ 20000) : MO (zsI (zsA (zsA (zsA σ g 14 (zI σ g 13) w) g 15 (zI σ g 13) s) g 16 (zI σ g 13) o) g 13 ((zI σ g 13) + 1)) g := by
  have h' := h
  obtain ⟨a0, a1, a7, a13, b1, b2, b3, b4⟩ := h'
  have key : ∀ τ : ZS, zI σ g 13 < 24 → zI τ g 0 = zI σ g 0 → zI τ g 1 = zI σ g 1 → zI τ g 7 = zI σ g 7 → zI τ g 13 = zI σ g 13 + 1 → zA τ g 14 = zu (zA σ g 14) (zI σ g 13) w → zA τ g 15 = zu (zA σ g 15) (zI σ g 13) s → zA τ g 16 = zu (zA σ g 16) (zI σ g 13) o → (zA τ g 6 = zA σ g 6 ∧ zA τ g 8 = zA σ g 8 ∧ zA τ g 9 = zA σ g 9 ∧ zA τ g 10 = zA σ g 10 ∧ zA τ g 11 = zA σ g 11 ∧ zA τ g 12 = zA σ g 12 ∧ zA τ g 2 = zA σ g 2 ∧ zA τ g 3 = zA σ g 3 ∧ zA τ g 4 = zA σ g 4 ∧ zA τ g 5 = zA σ g 5) → MO τ g := by
    intro τ lt e0 e1 e7 e13 f14 f15 f16 ⟨f6, f8, f9, f10, f11, f12, f2, f3, f4, f5⟩
    refine ⟨by rw [e0]; exact a0, by rw [e1]; exact a1, by rw [e7]; exact a7, by omega, ?_, ?_, ?_, fun q q0 q1 => ?_⟩
    · unfold MSg; rw [e1, f2, f3, f4, f5]; exact b1
    · unfold MBy; rw [f6]; exact b2
    · unfold MFx; rw [e7, f8, f9, f10, f11, f12]; exact b3
    · rw [f14, f15, f16]
      by_cases e : q = zI σ g 13
      · rw [e, pu_eq, pu_eq, pu_eq]; exact ⟨hw, hs, ho⟩
      · rw [pu_ne e, pu_ne e, pu_ne e]; exact b4 q q0 (by omega)
  clear b1 b2 b3 b4 h
  obtain rfl | rfl | rfl : g = 0 ∨ g = 1 ∨ g = 2 := by omega
  · exact key _ lt rfl rfl rfl rfl rfl rfl rfl ⟨rfl, rfl, rfl, rfl, rfl, rfl, rfl, rfl, rfl, rfl⟩
  · exact key _ lt rfl rfl rfl rfl rfl rfl rfl ⟨rfl, rfl, rfl, rfl, rfl, rfl, rfl, rfl, rfl, rfl⟩
  · exact key _ lt rfl rfl rfl rfl rfl rfl rfl ⟨rfl, rfl, rfl, rfl, rfl, rfl, rfl, rfl, rfl, rfl⟩
/-- publics as they stand before item v: pn the name of a public, gi where a name's public stands -/
def PBx (a c nw tg lo : Int → Int) (n5 m v : Int) (σ : ZS) : Prop := ∃ pn gi : Int → Int, (∀ q : Int, 0 ≤ q → q < zI σ m 13 → ((0 ≤ pn q ∧ pn q < n5) ∧ gi (pn q) = q) ∧ (zA σ m 14 q = nw (pn q) ∧ zA σ m 15 q = tg (pn q) ∧ zA σ m 16 q = lo (pn q)) ∧ ∃ j : Int, (0 ≤ j ∧ j < v) ∧ a j = 2 ∧ c j = pn q) ∧ (∀ j : Int, 0 ≤ j → j < v → a j = 2 → ∃ q : Int, (0 ≤ q ∧ q < zI σ m 13) ∧ zA σ m 14 q = nw (c j))
theorem PBx.s {a c nw tg lo : Int → Int} {n5 m v : Int} {σ : ZS} (h : PBx a c nw tg lo n5 m v σ) (hv : a v ≠ 2) : PBx a c nw tg lo n5 m (v + 1) σ := by
  obtain ⟨pn, gi, h1, h2⟩ := h
  refine ⟨pn, gi, fun q q0 q1 => ?_, fun j j0 j1 t => ?_⟩
  · obtain ⟨x1, x2, j, x3, x4⟩ := h1 q q0 q1
    exact ⟨x1, x2, j, by omega, x4⟩
  · by_cases e : j = v
    · rw [e] at t; exact absurd t hv
    · exact h2 j j0 (by omega) t
theorem PBx.k {a c nw tg lo : Int → Int} {n5 m v : Int} {σ τ : ZS} (h : PBx a c nw tg lo n5 m v σ) (e13 : zI τ m 13 = zI σ m 13) (e14 : zA τ m 14 = zA σ m 14) (e15 : zA τ m 15 = zA σ m 15) (e16 : zA τ m 16 = zA σ m 16) : PBx a c nw tg lo n5 m v τ := by
  unfold PBx; rw [e13, e14, e15, e16]; exact h
/-- all but the publics stays -/
def Kq (m : Int) (σ τ : ZS) : Prop := (zI τ m 0 = zI σ m 0 ∧ zI τ m 1 = zI σ m 1 ∧ zI τ m 7 = zI σ m 7) ∧ ∀ f : Nat, f ≠ 14 → f ≠ 15 → f ≠ 16 → zA τ m f = zA σ m f
theorem x_addPublic {a c nw tg lo : Int → Int} {n5 g v : Int} {σ : ZS} {Q : ZS → Prop} (hg : 0 ≤ g ∧ g ≤ 2) (h : MO σ g) (h5 : 0 ≤ n5 ∧ n5 ≤ 24) (hP : PBx a c nw tg lo n5 g v σ) (v0 : 0 ≤ v) (hv : a v = 2) (hn : 0 ≤ c v ∧ c v < n5) (hw : 0 ≤ nw (c v) ∧ nw (c v) ≤ 4398046511103) (hs : 0 ≤ tg (c v) ∧ tg (c v) < 24) (ho : 0 ≤ lo (c v) ∧ lo (c v) ≤ 20000) (hQ : ∀ τ : ZS, MO τ g → kp [g] σ τ → Kq g σ τ → PBx a c nw tg lo n5 g (v + 1) τ → Q τ) : wpX6_addPublic g (nw (c v)) (tg (c v)) (lo (c v)) σ Q := by
  have G := c_addPublic (Q := fun τ => MO τ g ∧ kp [g] σ τ) hg h hw hs ho (fun τ x y _ => ⟨x, y⟩)
  have h13 := h.2.2.2.1
  have Kq0 : Kq g σ σ := ⟨⟨rfl, rfl, rfl⟩, fun _ _ _ _ => rfl⟩
  obtain ⟨pn, gi, p1, p2⟩ := hP
  unfold wpX6_addPublic wpX6_addPublic_58 at G ⊢
  refine ⟨hg, c_publicNumber hg h hw (fun x x0 x1 ex _ => ⟨by omega, fun _ => hQ σ h kp.rf Kq0 ⟨pn, gi, fun q q0 q1 => ?_, fun j j0 j1 t => ?_⟩, fun q => absurd x0 q⟩) (fun no => ⟨by decide, fun q => absurd q (by decide), fun _ => ⟨by omega, fun big => ?_, fun q => ⟨by omega, ?_⟩⟩⟩)⟩
  · obtain ⟨x1, x2, j, x3, x4⟩ := p1 q q0 q1
    exact ⟨x1, x2, j, by omega, x4⟩
  · by_cases e : j = v
    · rw [e]; exact ⟨x, ⟨x0, x1⟩, ex⟩
    · exact p2 j j0 (by omega) t
  all_goals
    have fresh : ∀ q : Int, 0 ≤ q → q < zI σ g 13 → pn q ≠ c v := by
      intro q q0 q1 e
      have := (p1 q q0 q1).2.1.1
      rw [e] at this
      exact no q q0 q1 this
    have ext : ∀ q : Int, 0 ≤ q → q < zI σ g 13 + 1 → (0 ≤ zu pn (zI σ g 13) (c v) q ∧ zu pn (zI σ g 13) (c v) q < n5) ∧ zu gi (c v) (zI σ g 13) (zu pn (zI σ g 13) (c v) q) = q := by
      intro q q0 q1
      by_cases e : q = zI σ g 13
      · rw [e, pu_eq, pu_eq]; exact ⟨hn, rfl⟩
      · rw [pu_ne e, pu_ne (fresh q q0 (by omega))]; exact (p1 q q0 (by omega)).1
    have room := pigeon (f := zu pn (zI σ g 13) (c v)) (g := zu gi (c v) (zI σ g 13)) (n := zI σ g 13 + 1) (k := n5) (by omega) h5.1 ext
  · omega
  · have key : ∀ τ : ZS, MO τ g → kp [g] σ τ → Kq g σ τ → zI τ g 13 = zI σ g 13 + 1 → zA τ g 14 = zu (zA σ g 14) (zI σ g 13) (nw (c v)) → zA τ g 15 = zu (zA σ g 15) (zI σ g 13) (tg (c v)) → zA τ g 16 = zu (zA σ g 16) (zI σ g 13) (lo (c v)) → Q τ := by
      intro τ tm tk tq e13 e14 e15 e16
      refine hQ τ tm tk tq ⟨zu pn (zI σ g 13) (c v), zu gi (c v) (zI σ g 13), fun q q0 q1 => ?_, fun j j0 j1 t => ?_⟩
      · rw [e13] at q1
        refine ⟨ext q q0 q1, ?_⟩
        rw [e14, e15, e16]
        by_cases e : q = zI σ g 13
        · rw [e, pu_eq, pu_eq, pu_eq, pu_eq]; exact ⟨⟨rfl, rfl, rfl⟩, v, by omega, hv, rfl⟩
        · rw [pu_ne e, pu_ne e, pu_ne e, pu_ne e]
          obtain ⟨x1, x2, j, x3, x4⟩ := p1 q q0 (by omega)
          exact ⟨x2, j, by omega, x4⟩
      · rw [e13, e14]
        by_cases e : j = v
        · rw [e]; exact ⟨zI σ g 13, by omega, pu_eq⟩
        · obtain ⟨q, q1, q2⟩ := p2 j j0 (by omega) t
          exact ⟨q, by omega, by rw [pu_ne (by omega)]; exact q2⟩
    have mk : MO (zsI (zsA (zsA (zsA σ g 14 (zI σ g 13) (nw (c v))) g 15 (zI σ g 13) (tg (c v))) g 16 (zI σ g 13) (lo (c v))) g 13 ((zI σ g 13) + 1)) g ∧ kp [g] σ (zsI (zsA (zsA (zsA σ g 14 (zI σ g 13) (nw (c v))) g 15 (zI σ g 13) (tg (c v))) g 16 (zI σ g 13) (lo (c v))) g 13 ((zI σ g 13) + 1)) := by
      have kk : kp [g] σ (zsI (zsA (zsA (zsA σ g 14 (zI σ g 13) (nw (c v))) g 15 (zI σ g 13) (tg (c v))) g 16 (zI σ g 13) (lo (c v))) g 13 ((zI σ g 13) + 1)) := (((kp.rf.ta m_1).ta m_1).ta m_1).ti m_1
      refine ⟨?_, kk⟩
      exact addPublic_mo hg h (by omega) hw hs ho
    refine key _ mk.1 mk.2 ⟨⟨(zI_f (by decide)), (zI_f (by decide)), (zI_f (by decide))⟩, fun f f1 f2 f3 => ?_⟩ zI_s ?_ ?_ ?_
    · show zA (zsA (zsA (zsA σ g 14 (zI σ g 13) (nw (c v))) g 15 (zI σ g 13) (tg (c v))) g 16 (zI σ g 13) (lo (c v))) g f = _
      rw [zA_f f3, zA_f f2, zA_f f1]
    · show zA (zsA (zsA (zsA σ g 14 (zI σ g 13) (nw (c v))) g 15 (zI σ g 13) (tg (c v))) g 16 (zI σ g 13) (lo (c v))) g 14 = _
      rw [zA_f (by decide), zA_f (by decide), zA_s]
    · show zA (zsA (zsA (zsA σ g 14 (zI σ g 13) (nw (c v))) g 15 (zI σ g 13) (tg (c v))) g 16 (zI σ g 13) (lo (c v))) g 15 = _
      rw [zA_f (by decide), zA_s, zA_f (by decide)]
    · show zA (zsA (zsA (zsA σ g 14 (zI σ g 13) (nw (c v))) g 15 (zI σ g 13) (tg (c v))) g 16 (zI σ g 13) (lo (c v))) g 16 = _
      rw [zA_s, zA_f (by decide), zA_f (by decide)]
/-! X: the class writes a module, whole -/
def WG (σ : ZS) (m : Int) (τ : ZS) (v : Int) : Prop := zI τ m 1 = v ∧ ∀ s : Int, 0 ≤ s → s < v → zA τ m 2 s = zA σ 11 0 (zA σ 15 2 s) ∧ zA τ m 3 s = zA σ 11 3 (zA σ 15 2 s) ∧ zA τ m 4 s = zA σ 15 3 s ∧ zA τ m 5 s = psum (zA σ 15 3) s.toNat
theorem WG.k {σ τ υ : ZS} {m v : Int} (h : WG σ m τ v) (e1 : zI υ m 1 = zI τ m 1) (e2 : zA υ m 2 = zA τ m 2) (e3 : zA υ m 3 = zA τ m 3) (e4 : zA υ m 4 = zA τ m 4) (e5 : zA υ m 5 = zA τ m 5) : WG σ m υ v := by
  unfold WG; rw [e1, e2, e3, e4, e5]; exact h
theorem mI_d {a b c g X r : Int → Int} {N : Nat} {d : MD} {i : Int} (h : g i < 0 ∨ a i = 2) : mI a b c g X r N d i = d := by
  unfold mI
  by_cases q : g i < 0
  · rw [if_pos q]
  · have t : a i = 2 := h.resolve_left q
    rw [if_neg q, if_neg (by omega), if_neg (by omega), if_neg (by omega), if_neg (by omega), if_neg (by omega), if_neg (by omega), if_neg (by omega), if_neg (by omega)]
theorem mK_s {a b c g X r : Int → Int} {N : Nat} {v : Int} (h : 0 ≤ v) : mK a b c g X r N (v + 1).toNat = mI a b c g X r N (mK a b c g X r N v.toNat) v := by
  rw [show (v + 1).toNat = v.toNat + 1 by omega]
  show mI a b c g X r N (mK a b c g X r N v.toNat) (v.toNat : Int) = _
  rw [show ((v.toNat : Nat) : Int) = v by omega]
theorem x_write {a b c g r : Int → Int} {N : Nat} {m : Int} {σ : ZS} {Q : ZS → Prop} (hm : 0 ≤ m ∧ m ≤ 2) (hW : WX a b c g r N m σ) (h4 : psum (zA σ 15 3) (zI σ 15 4).toNat ≤ 400) (h24 : zI σ 11 5 ≤ 24) (hsh : ∀ i : Int, 0 ≤ i → i < N → a i = 9 → xF σ i = 0 → r (c i) ≠ 3) (hQ : ∀ τ : ZS, MO τ m → kp [m] σ τ → zI τ m 0 = 1 → WG σ m τ (zI σ 15 4) → MC (zA σ 11 0) (zA σ 11 2) τ m (mK a b c g (xF σ) r N N) → PBx a c (zA σ 11 0) (zA σ 11 2) (zA σ 11 4) (zI σ 11 5) m N τ → Q τ) : wpX2_write m σ Q := by
  obtain ⟨h, h2, h3, hj, h5, h6, h7, h8, h9⟩ := id hW
  have hf := h.few
  obtain ⟨⟨a1, a2, a3, a4, a5, a6, a7, a8, a9⟩, hd, hu, hw⟩ := id h
  have nn : ∀ j : Int, 0 ≤ j → j < ((zI σ 15 4).toNat : Int) → 0 ≤ zA σ 15 3 j := fun j j0 j1 => (a7 j j0 (by omega)).2.1
  have pm : ∀ n : Int, 0 ≤ n → n ≤ zI σ 15 4 → 0 ≤ psum (zA σ 15 3) n.toNat ∧ psum (zA σ 15 3) n.toNat ≤ 400 := by
    intro n n0 n1
    have q1 := psum_nn (f := zA σ 15 3) n.toNat (fun j j0 j1 => nn j j0 (by omega))
    have q2 := psum_mono (f := zA σ 15 3) (m := n.toNat) (zI σ 15 4).toNat (by omega) nn
    omega
  have ps : ∀ n : Int, 0 ≤ n → psum (zA σ 15 3) (n + 1).toNat = psum (zA σ 15 3) n.toNat + zA σ 15 3 n := by
    intro n n0
    rw [show (n + 1).toNat = n.toNat + 1 by omega]
    show psum (zA σ 15 3) n.toNat + zA σ 15 3 ((n.toNat : Nat) : Int) = _
    rw [show ((n.toNat : Nat) : Int) = n by omega]
  have sz : ∀ s : Int, 0 ≤ s → s < 60 → zA σ 15 3 s = oS a b g (xF σ) s N := by
    intro s s0 s1
    have := h3.1 s s0 s1
    rw [h5] at this
    exact this
  have ste : ∀ s : Int, 0 ≤ s → s ≤ zI σ 15 4 → psum (zA σ 15 3) s.toNat = stS a b g (xF σ) N s := fun s s0 s1 => psum_ext _ (fun j j0 j1 => sz j j0 (by omega))
  have tot : tS a b g (xF σ) N ≤ 400 := by
    have e := tS_eq (a := a) (b := b) (g := g) (X := xF σ) (ns := (zI σ 15 4).toNat) N (fun j hj' => by
      have q := hd (j : Int) (by omega) (by omega)
      rw [h2.2.2.1 (j : Int) (by omega) (by omega)] at q
      omega)
    have e2 := ste (zI σ 15 4) a4.1 (Int.le_refl _)
    unfold stS at e2
    omega
  unfold wpX2_write
  refine ⟨hm, x_mclear hm (fun τ0 m0 k0 e0 e1 e7 e13 e6 => ?_)⟩
  have m1 : MO (zsI τ0 m 0 1) m := by
    obtain ⟨b0, b1, b7, b13, b⟩ := m0
    unfold MO MSg MBy MFx MPb
    rw [zI_s, zI_f (by decide), zI_f (by decide), zI_f (by decide)]
    exact ⟨by decide, b1, b7, b13, b⟩
  have k1 : kp [m] σ (zsI τ0 m 0 1) := k0.ti m_1
  have g1 : zI (zsI τ0 m 0 1) m 1 = 0 := (zI_f (by decide)).trans e1
  have g7 : zI (zsI τ0 m 0 1) m 7 = 0 := (zI_f (by decide)).trans e7
  have g13 : zI (zsI τ0 m 0 1) m 13 = 0 := (zI_f (by decide)).trans e13
  have c0 : MC (zA σ 11 0) (zA σ 11 2) (zsI τ0 m 0 1) m mD0 := ⟨fun j j0 j1 => e6 j j0 j1, g7, fun k k0 k1 => absurd (show k < 0 from k1) (by omega)⟩
  -- items
  have f62 : ∀ τ : ZS, MO τ m → kp [m] σ τ → zI τ m 0 = 1 → WG σ m τ (zI σ 15 4) → MC (zA σ 11 0) (zA σ 11 2) τ m mD0 → zI τ m 13 = 0 → wpX2_write_62 m 0 τ Q := by
    intro τ tm tk t0 tg tc t13
    unfold wpX2_write_62
    refine lfp1_ind (fun v _ => (248 - v).toNat) (fun v υ => MO υ m ∧ kp [m] σ υ ∧ zI υ m 0 = 1 ∧ WG σ m υ (zI σ 15 4) ∧ MC (zA σ 11 0) (zA σ 11 2) υ m (mK a b c g (xF σ) r N v.toNat) ∧ PBx a c (zA σ 11 0) (zA σ 11 2) (zA σ 11 4) (zI σ 11 5) m v υ ∧ (0 ≤ v ∧ v ≤ zI σ 13 7)) (fun K v υ hI ih => ?_) ⟨tm, tk, t0, tg, tc, ⟨fun _ => 0, fun _ => 0, fun q q0 q1 => absurd q1 (by omega), fun j j0 j1 => absurd j1 (by omega)⟩, by decide, h.1.sz.1⟩
    obtain ⟨um, uk, u0, ug, uc, up, v0, v1⟩ := hI
    obtain ⟨ux, uxf⟩ := hW.k hm uk
    have uz := ux.1
    have e11 := uk 11 (n_1 (by omega))
    have e13 := uk 13 (n_1 (by omega))
    have e15 := uk 15 (n_1 (by omega))
    have s7 := ob_I e13 7
    have hz := uz.1.sz
    have hN := uz.1.2.1.1
    have uwm : WM a b g N m υ := by
      refine ⟨by rw [ug.1, ob_I e15 4], fun s s0 s1 => ?_⟩
      rw [ob_I e15 4] at s1
      rw [(ug.2 s s0 s1).2.2.2, uxf, ste s s0 (by omega)]
    unfold wpbX2_write_62 wpX2_write_148
    refine ⟨by omega, by omega, fun le => ?_, fun lt => ?_⟩
    · have ev : v = (N : Int) := by omega
      rw [ev] at uc up
      exact hQ υ um uk u0 ug uc up
    obtain ⟨i1, i2, i3, i4, i5, i6, i7, i8, i9, i10⟩ := uz.1.it v0 (show v < zI υ 13 7 by omega)
    have ud := uz.2.1 v v0 (by omega)
    have us := uz.1.2.2.2.1
    have ea : zA υ 13 0 v = a v := by rw [ux.2.1.1]
    have ec : zA υ 13 2 v = c v := by rw [ux.2.1.2.1]
    have eg : zA υ 13 5 v = g v := ux.2.1.2.2.1 v v0 (by omega)
    refine ⟨by omega, by omega, fun n2 => ⟨by omega, fun neg => ?_, fun nn' => ?_⟩, fun e2 => ?_⟩
    · refine ih _ _ ⟨um, uk, u0, ug, ?_, up.s (by rw [← ea]; exact n2), by omega, by omega⟩ (by omega)
      rw [mK_s v0, mI_d (Or.inl (by rw [← eg]; exact neg))]; exact uc
    · have nf := mK_nf (a := a) (b := b) (c := c) (g := g) (X := xF σ) (r := r) (N := N) v.toNat (fun j hj' => hj.2.2 j (by omega))
      have mo := tS_mo (a := a) (b := b) (g := g) (X := xF σ) (m := v.toNat + 1) N (by omega) hj.2.2
      have st : tS a b g (xF σ) (v.toNat + 1) = tS a b g (xF σ) v.toNat + (if g v < 0 then 0 else sI a b (xF σ) v) := by
        show tS a b g (xF σ) v.toNat + (if g (v.toNat : Int) < 0 then 0 else sI a b (xF σ) (v.toNat : Int)) = _
        rw [show ((v.toNat : Nat) : Int) = v by omega]
      rw [if_neg (by rw [← eg]; exact nn')] at st
      refine x_writeItem (d := mK a b c g (xF σ) r N v.toNat) hm ux uwm um ⟨v0, by omega⟩ (by omega) (by rw [← ea]; exact n2) (by rw [uxf]; omega) (by rw [ob_A e11 0, ob_A e11 2]; exact uc) (by rw [uxf]; exact hsh v v0 (by omega)) (fun ω wm wk wg wc => ?_)
      rw [ob_A e11 0, ob_A e11 2, uxf] at wc
      refine ih _ _ ⟨wm, uk.tr wk, wg.1.1.trans u0, ug.k wg.1.2.1 wg.2.1 wg.2.2.1 wg.2.2.2.1 wg.2.2.2.2.1, ?_, (up.s (by rw [← ea]; exact n2)).k wg.1.2.2 wg.2.2.2.2.2.1 wg.2.2.2.2.2.2.1 wg.2.2.2.2.2.2.2, by omega, by omega⟩ (by omega)
      rw [mK_s v0]; exact wc
    · have hn := i6 (by omega) (by omega) (by omega)
      have r2 := uz.2.2.1 v v0 (by omega) e2
      have sg := (uz.1.2.2.2.2.2.2.2.1 _ hn i3.2).2.2.1 r2
      have fw := uz.few
      have hr := uz.1.1 _ hn (show zA υ 13 2 v < 240 by omega)
      have ww := uz.2.2.2
      have n5 := ob_I e11 5
      rw [ec] at hn i3 sg hr ⊢
      rw [ob_A e11 0, ob_A e11 2, ob_A e11 4] at *
      refine ⟨by omega, hm, x_addPublic hm um ⟨by omega, h24⟩ up v0 (by rw [← ea]; exact e2) (by omega) hr.1 ⟨sg.2.2 ww, by omega⟩ hr.2.2.2.2 (fun ω wm wk wq wp => ?_)⟩
      refine ih _ _ ⟨wm, uk.tr wk, wq.1.1.trans u0, ug.k wq.1.2.1 (wq.2 2 (by decide) (by decide) (by decide)) (wq.2 3 (by decide) (by decide) (by decide)) (wq.2 4 (by decide) (by decide) (by decide)) (wq.2 5 (by decide) (by decide) (by decide)), ?_, wp, by omega, by omega⟩ (by omega)
      rw [mK_s v0, mI_d (Or.inr (by rw [← ea]; exact e2))]
      unfold MC
      rw [wq.2 6 (by decide) (by decide) (by decide), wq.1.2.2, wq.2 8 (by decide) (by decide) (by decide), wq.2 9 (by decide) (by decide) (by decide), wq.2 10 (by decide) (by decide) (by decide), wq.2 11 (by decide) (by decide) (by decide), wq.2 12 (by decide) (by decide) (by decide)]
      exact uc
  unfold wpX2_write_11
  refine lfp1_ind (fun v _ => (60 - v).toNat) (fun v υ => MO υ m ∧ kp [m] σ υ ∧ zI υ m 0 = 1 ∧ WG σ m υ v ∧ MC (zA σ 11 0) (zA σ 11 2) υ m mD0 ∧ zI υ m 13 = 0 ∧ (0 ≤ v ∧ v ≤ zI σ 15 4)) (fun K v υ hI ih => ?_) ⟨m1, k1, zI_s, ⟨g1, fun s s0 s1 => absurd s1 (by omega)⟩, c0, g13, by decide, a4.1⟩
  obtain ⟨um, uk, u0, ug, uc, u13, v0, v1⟩ := hI
  have e15 := uk 15 (n_1 (by omega))
  have e11 := uk 11 (n_1 (by omega))
  have s4 := ob_I e15 4
  have uc1 := ug.1
  unfold wpbX2_write_11
  refine ⟨by omega, by omega, fun _ => f62 υ um uk u0 (by rw [show zI σ 15 4 = v by omega]; exact ug) uc u13, fun lt => ?_⟩
  rw [ob_A e15 2, ob_A e15 3, ob_A e11 0, ob_A e11 3]
  obtain ⟨z1, z2, z3⟩ := a9 v v0 (by omega)
  have hN := a2.1
  have hr := a1 _ z1.1 (show zA σ 15 2 v < 240 by omega)
  have al1 := ((a8 _ z1.1 z1.2).2.1 z2).2.2
  have p1 := pm v v0 (by omega)
  have p2 := pm (v + 1) (by omega) (by omega)
  have p3 := ps v v0
  refine ⟨by omega, by omega, hm, x_addSegment (st := psum (zA σ 15 3) v.toNat) hm um (by omega) hr.1 al1 (a7 v v0 (by omega)).2.1 (fun q => ?_) (fun q => ?_) (by omega) (fun ω wm wk w1 w2 => ih _ _ ⟨wm, uk.tr wk, w1.1.trans u0, ⟨by omega, fun s s0 s1 => ?_⟩, ?_, w1.2.2.2.trans u13, by omega, by omega⟩ (by omega))⟩
  · rw [show v = 0 by omega]; rfl
  · rw [uc1]
    obtain ⟨-, -, x4, x5⟩ := ug.2 (v - 1) (by omega) (by omega)
    rw [x4, x5]
    have := ps (v - 1) (by omega)
    rw [show v - 1 + 1 = v by omega] at this
    omega
  · obtain ⟨f2, f3, f4, f5, f6⟩ := w2
    rw [f2, f3, f4, f5, uc1]
    by_cases e : s = v
    · rw [e, pu_eq, pu_eq, pu_eq, pu_eq]; exact ⟨rfl, rfl, rfl, rfl⟩
    · rw [pu_ne e, pu_ne e, pu_ne e, pu_ne e]; exact ug.2 s s0 (by omega)
  · exact ⟨by rw [w2.2.2.2.2]; exact uc.1, w1.2.2.1.trans uc.2.1, fun k k0 k1 => absurd (show k < 0 from k1) (by omega)⟩
/-! Y: the reference puts a piece, exactly -/
def qO (β : ZS) (p o : Int) : Int := psum (zA β 0 36) (zA β 0 28 p).toNat + o
def qD (β : ZS) (p : Int) : Int := zA β 0 16 (zA β 0 25 p) - zA β 0 29 p - szp β p
def qNe (β : ZS) (d : MD) (p : Int) : MD := if zA β 0 13 (zA β 0 25 p) = 3 then mW (mF d 2 (zA β 0 28 p) (zA β 0 29 p + 1) (zA β 0 25 p)) (qO β p (zA β 0 29 p + 1)) 0 else mW d (qO β p (zA β 0 29 p + 1)) (qD β p)
def qI (β : ZS) (d : MD) (p : Int) : MD := if zA β 0 24 p = 0 then mB d (qO β p (zA β 0 29 p)) (zA β 0 25 p) else if zA β 0 24 p = 1 then mW d (qO β p (zA β 0 29 p)) (zA β 0 25 p) else if zA β 0 24 p = 2 then mW (mF d 0 (zA β 0 28 p) (zA β 0 29 p) (zA β 0 25 p)) (qO β p (zA β 0 29 p)) (zA β 0 26 p + (if zA β 0 13 (zA β 0 25 p) = 2 then zA β 0 16 (zA β 0 25 p) else 0)) else if zA β 0 24 p = 3 then mW (mF d 1 (zA β 0 28 p) (zA β 0 29 p) (zA β 0 25 p)) (qO β p (zA β 0 29 p)) 0 else if zA β 0 24 p = 4 then (if zA β 0 30 p = 0 then mB (mB d (qO β p (zA β 0 29 p)) 235) (qO β p (zA β 0 29 p + 1)) (qD β p) else qNe β (mB d (qO β p (zA β 0 29 p)) 233) p) else if zA β 0 24 p = 5 then mB (mB d (qO β p (zA β 0 29 p)) (zA β 0 26 p)) (qO β p (zA β 0 29 p + 1)) (qD β p) else if zA β 0 24 p = 6 then qNe β (mB d (qO β p (zA β 0 29 p)) 232) p else d
/-- the reference's module holds d -/
def MQr (β : ZS) (m : Int) (τ : ZS) (d : MD) : Prop := (∀ j : Int, 0 ≤ j → j < 400 → zA τ 0 49 (400 * m + j) = d.co j) ∧ zA τ 0 50 m = d.nf ∧ (∀ k : Int, 0 ≤ k → k < d.nf → zA τ 0 51 (200 * m + k) = d.fk k ∧ zA τ 0 52 (200 * m + k) = d.fs k ∧ zA τ 0 53 (200 * m + k) = d.fp k ∧ zA τ 0 54 (200 * m + k) = (if zA β 0 13 (d.fn k) = 3 then -1 else zA β 0 14 (d.fn k)) ∧ zA τ 0 55 (200 * m + k) = zA β 0 12 (d.fn k))
/-- what else other modules have stays -/
def OV (m : Int) (σ τ : ZS) : Prop := (∀ i : Int, i < 24 * m ∨ 24 * m + 24 ≤ i → zA τ 0 45 i = zA σ 0 45 i) ∧ (∀ i : Int, i < 400 * m ∨ 400 * m + 400 ≤ i → zA τ 0 49 i = zA σ 0 49 i) ∧ (∀ f : Int, f < 200 * m ∨ 200 * m + 200 ≤ f → zA τ 0 55 f = zA σ 0 55 f) ∧ (∀ q : Int, q < 80 * m ∨ 80 * m + 80 ≤ q → zA τ 0 57 q = zA σ 0 57 q)
theorem OV.rf {m : Int} {σ : ZS} : OV m σ σ := ⟨fun _ _ => rfl, fun _ _ => rfl, fun _ _ => rfl, fun _ _ => rfl⟩
theorem OV.tr {m : Int} {σ τ υ : ZS} (h : OV m σ τ) (k : OV m τ υ) : OV m σ υ := ⟨fun i q => (k.1 i q).trans (h.1 i q), fun i q => (k.2.1 i q).trans (h.2.1 i q), fun i q => (k.2.2.1 i q).trans (h.2.2.1 i q), fun i q => (k.2.2.2 i q).trans (h.2.2.2 i q)⟩
def PV (β : ZS) (m : Int) (τ υ : ZS) (d : MD) : Prop := PU β m τ υ d.nf ∧ MQr β m υ d ∧ OV m τ υ
theorem y_set {β τ υ : ZS} {m p o bb : Int} {d : MD} {R : ZS → Prop} (hm : 0 ≤ m ∧ m ≤ 2) (hs : 0 ≤ zA β 0 28 p ∧ zA β 0 28 p < zI β 0 34) (w24 : zI β 0 34 ≤ 24) (hbeg : 0 ≤ psum (zA β 0 36) (zA β 0 28 p).toNat ∧ psum (zA β 0 36) (zA β 0 28 p).toNat + zA β 0 36 (zA β 0 28 p) ≤ 400) (hT : MT β m τ) (hP : PV β m τ υ d) (o0 : 0 ≤ o) (o1 : o < zA β 0 36 (zA β 0 28 p)) (hR : ∀ ω : ZS, PV β m τ ω (mB d (qO β p o) bb) → R ω) : wpX11_set m (zA β 0 28 p) o bb υ R := by
  obtain ⟨⟨hPf, hPo, hPm, hPx, hPc⟩, ⟨m1, m2, m3⟩, v1, v2, v3, v4⟩ := hP
  have e47 : zA υ 0 47 (24 * m + zA β 0 28 p) = psum (zA β 0 36) (zA β 0 28 p).toNat := by rw [hPf.2 47 (by decide)]; exact (hT _ hs.1 hs.2).1
  unfold wpX11_set
  rw [e47]
  refine ⟨by omega, by omega, hR _ ⟨⟨hPf.ta (by decide), hPo, ?_, hPx, hPc⟩, ⟨fun j j0 j1 => ?_, m2, m3⟩, v1, fun i hi => ?_, v3, v4⟩⟩
  · obtain ⟨g1, g2, g3, g4, g5⟩ := hPm
    refine ⟨g1, g2, g3, fun i i0 i1 => ?_, g5⟩
    show 0 ≤ zu (zA υ 0 49) (400 * m + psum (zA β 0 36) (zA β 0 28 p).toNat + o) (bb % 256) i ∧ zu (zA υ 0 49) (400 * m + psum (zA β 0 36) (zA β 0 28 p).toNat + o) (bb % 256) i ≤ 255
    by_cases e : i = 400 * m + psum (zA β 0 36) (zA β 0 28 p).toNat + o
    · rw [e, pu_eq]; omega
    · rw [pu_ne e]; exact g4 i i0 i1
  · show zu (zA υ 0 49) (400 * m + psum (zA β 0 36) (zA β 0 28 p).toNat + o) (bb % 256) (400 * m + j) = zu d.co (psum (zA β 0 36) (zA β 0 28 p).toNat + o) (bb % 256) j
    by_cases e : j = psum (zA β 0 36) (zA β 0 28 p).toNat + o
    · rw [e, pu_eq, show 400 * m + (psum (zA β 0 36) (zA β 0 28 p).toNat + o) = 400 * m + psum (zA β 0 36) (zA β 0 28 p).toNat + o by omega, pu_eq]
    · rw [pu_ne e, pu_ne (by omega)]; exact m1 j j0 j1
  · show zu (zA υ 0 49) (400 * m + psum (zA β 0 36) (zA β 0 28 p).toNat + o) (bb % 256) i = _
    rw [pu_ne (by omega)]; exact v2 i hi
theorem y_fix {β τ υ : ZS} {m p k o n : Int} {d : MD} {R : ZS → Prop} (hm : 0 ≤ m ∧ m ≤ 2) (hb : ∀ j : Nat, j ∉ WA → zA τ 0 j = zA β 0 j) (w1 : G1 β) (hs : 0 ≤ zA β 0 28 p ∧ zA β 0 28 p < zI β 0 34) (hP : PV β m τ υ d) (hk : 0 ≤ k ∧ k ≤ 2) (o0 : 0 ≤ o) (o1 : o + 2 ≤ zA β 0 36 (zA β 0 28 p)) (hn : 0 ≤ n ∧ n < 240) (ha1 : -1 ≤ zA β 0 14 n) (ha2 : zA β 0 13 n ≠ 3 → zA β 0 14 n < zI β 0 34) (hlim : 0 ≤ d.nf ∧ d.nf ≤ 199) (hR : ∀ ω : ZS, PV β m τ ω (mF d k (zA β 0 28 p) o n) → R ω) : wpX11_fix m k (zA β 0 28 p) o n υ R := by
  have hUW : ∀ j ∈ UA, j ∈ WA := by decide
  obtain ⟨⟨hPf, hPo, hPm, hPx, hPc⟩, ⟨m1, m2, m3⟩, v1, v2, v3, v4⟩ := hP
  have ku : ∀ j : Nat, j ∉ WA → zA υ 0 j = zA β 0 j := fun j hj => (hPf.2 j (fun q => hj (hUW j q))).trans (hb j hj)
  have hso := (w1 n hn.1 hn.2).1
  have hnm := (w1 n hn.1 hn.2).2.2.2
  have go : ∀ ab : Int, -1 ≤ ab → ab < zI β 0 34 → ab = (if zA β 0 13 n = 3 then -1 else zA β 0 14 n) → wpX11_fix_67 m n (200 * m + d.nf) ab (200 * m + d.nf) (zsA (zsA (zsA υ 0 51 (200 * m + d.nf) k) 0 52 (200 * m + d.nf) (zA β 0 28 p)) 0 53 (200 * m + d.nf) o) R := by
    intro ab a0 a1 eab
    unfold wpX11_fix_67
    have e50 : zA (zsA (zsA (zsA (zsA (zsA (zsA υ 0 51 (200 * m + d.nf) k) 0 52 (200 * m + d.nf) (zA β 0 28 p)) 0 53 (200 * m + d.nf) o) 0 54 (200 * m + d.nf) ab) 0 55 (200 * m + d.nf) (zA (zsA (zsA (zsA υ 0 51 (200 * m + d.nf) k) 0 52 (200 * m + d.nf) (zA β 0 28 p)) 0 53 (200 * m + d.nf) o) 0 12 n)) 0 50 m (zA (zsA (zsA (zsA υ 0 51 (200 * m + d.nf) k) 0 52 (200 * m + d.nf) (zA β 0 28 p)) 0 53 (200 * m + d.nf) o) 0 50 m + 1)) 0 50 m = d.nf + 1 := (pu_eq (h := zA υ 0 50)).trans (by show zA υ 0 50 m + 1 = _; rw [hPc])
    refine ⟨by omega, hn, by omega, by omega, hR _ ⟨⟨((((((hPf.ta (by decide)).ta (by decide)).ta (by decide)).ta (by decide)).ta (by decide)).ta (by decide)), ?_, ?_, ?_, e50⟩, ⟨m1, e50, ?_⟩, v1, v2, fun f hf' => ?_, v4⟩⟩
    · obtain ⟨o1', o2', o3', o4'⟩ := hPo
      refine ⟨fun j hj => ?_, o2', fun f hf' => ?_, o4'⟩
      · obtain ⟨x1, x2, x3, x4⟩ := o1' j hj
        refine ⟨x1, x2, ?_, x4⟩
        show zu (zA υ 0 50) m _ j = _
        rw [pu_ne hj]; exact x3
      · obtain ⟨x1, x2, x3, x4⟩ := o3' f hf'
        have hne : f ≠ 200 * m + d.nf := by omega
        refine ⟨?_, ?_, ?_, ?_⟩
        · show zu (zA υ 0 51) _ _ f = _; rw [pu_ne hne]; exact x1
        · show zu (zA υ 0 52) _ _ f = _; rw [pu_ne hne]; exact x2
        · show zu (zA υ 0 53) _ _ f = _; rw [pu_ne hne]; exact x3
        · show zu (zA υ 0 54) _ _ f = _; rw [pu_ne hne]; exact x4
    · obtain ⟨g1, g2, g3, g4, g5⟩ := hPm
      refine ⟨g1, fun i i0 i1 => ?_, g3, g4, g5⟩
      show 0 ≤ zu (zA υ 0 55) (200 * m + d.nf) (zA υ 0 12 n) i ∧ zu (zA υ 0 55) (200 * m + d.nf) (zA υ 0 12 n) i ≤ 72057594037927936
      by_cases e : i = 200 * m + d.nf
      · rw [e, pu_eq, ku 12 (by decide)]; exact hnm
      · rw [pu_ne e]; exact g2 i i0 i1
    · intro j j0 j1
      rw [e50] at j1
      show (0 ≤ zu (zA υ 0 51) (200 * m + d.nf) k (200 * m + j) ∧ zu (zA υ 0 51) (200 * m + d.nf) k (200 * m + j) ≤ 2) ∧ (0 ≤ zu (zA υ 0 52) (200 * m + d.nf) (zA β 0 28 p) (200 * m + j) ∧ zu (zA υ 0 52) (200 * m + d.nf) (zA β 0 28 p) (200 * m + j) < zI β 0 34) ∧ 0 ≤ zu (zA υ 0 53) (200 * m + d.nf) o (200 * m + j) ∧ zu (zA υ 0 53) (200 * m + d.nf) o (200 * m + j) + 2 ≤ zA β 0 36 (zu (zA υ 0 52) (200 * m + d.nf) (zA β 0 28 p) (200 * m + j)) ∧ (-1 ≤ zu (zA υ 0 54) (200 * m + d.nf) ab (200 * m + j) ∧ zu (zA υ 0 54) (200 * m + d.nf) ab (200 * m + j) < zI β 0 34)
      by_cases e : j = d.nf
      · rw [e, pu_eq, pu_eq, pu_eq, pu_eq]; exact ⟨hk, hs, o0, o1, a0, a1⟩
      · have hne : 200 * m + j ≠ 200 * m + d.nf := by omega
        rw [pu_ne hne, pu_ne hne, pu_ne hne, pu_ne hne]
        exact hPx j j0 (by omega)
    · intro j j0 j1
      have j1' : j < d.nf + 1 := j1
      show zu (zA υ 0 51) (200 * m + d.nf) k (200 * m + j) = zu d.fk d.nf k j ∧ zu (zA υ 0 52) (200 * m + d.nf) (zA β 0 28 p) (200 * m + j) = zu d.fs d.nf (zA β 0 28 p) j ∧ zu (zA υ 0 53) (200 * m + d.nf) o (200 * m + j) = zu d.fp d.nf o j ∧ zu (zA υ 0 54) (200 * m + d.nf) ab (200 * m + j) = (if zA β 0 13 (zu d.fn d.nf n j) = 3 then -1 else zA β 0 14 (zu d.fn d.nf n j)) ∧ zu (zA υ 0 55) (200 * m + d.nf) (zA υ 0 12 n) (200 * m + j) = zA β 0 12 (zu d.fn d.nf n j)
      by_cases e : j = d.nf
      · rw [e, pu_eq, pu_eq, pu_eq, pu_eq, pu_eq, pu_eq, pu_eq, pu_eq, pu_eq, ku 12 (by decide)]; exact ⟨rfl, rfl, rfl, eab, rfl⟩
      · have hne : 200 * m + j ≠ 200 * m + d.nf := by omega
        rw [pu_ne hne, pu_ne hne, pu_ne hne, pu_ne hne, pu_ne hne, pu_ne e, pu_ne e, pu_ne e, pu_ne e]
        exact m3 j j0 (by omega)
    · show zu (zA υ 0 55) (200 * m + d.nf) (zA υ 0 12 n) f = _
      rw [pu_ne (by omega)]; exact v3 f hf'
  unfold wpX11_fix
  rw [hPc, ku 13 (by decide), ku 14 (by decide)]
  exact ⟨by omega, by omega, hn, by omega, fun n3 => go _ ha1 (ha2 n3) (by rw [if_neg n3]), fun y3 => go (-1) (by decide) (by omega) (by rw [if_pos y3])⟩
theorem y_put {β τ : ZS} {m p : Int} {d : MD} {Q : ZS → Prop} (hW : WC β) (hm : 0 ≤ m ∧ m ≤ 2) (hp : 0 ≤ p ∧ p < zI β 0 31) (hf : fr [] WA β τ) (hT : MT β m τ) (hM : GM τ) (hX : FX β m τ) (hc : 0 ≤ d.nf ∧ 2 * d.nf ≤ psum (szp β) p.toNat) (hR : MQr β m τ d) (hQ : ∀ υ : ZS, fr [] UA τ υ → OU m τ υ → GM υ → FX β m υ → (0 ≤ (qI β d p).nf ∧ 2 * (qI β d p).nf ≤ psum (szp β) (p + 1).toNat) → MQr β m υ (qI β d p) → OV m τ υ → Q υ) : wpX11_put m p τ Q := by
  obtain ⟨w1, w2, w3, wO, wL, wS, w24, wal, wsum, wne, wab, wpb, wus, wcn⟩ := hW
  obtain ⟨s31, s34, sg⟩ := wS
  obtain ⟨q1, q2, q3, q4, q5, q6, q7, q8⟩ := w3 p hp.1 (by omega)
  have hs := sg p hp.1 hp.2
  have hat := wL.2.1 p hp.1 hp.2
  have hzb := szp_bd w3 hp.1 (by omega)
  have hstep : psum (szp β) (p + 1).toNat = psum (szp β) p.toNat + szp β p := by
    rw [show (p + 1).toNat = p.toNat + 1 by omega]
    show psum (szp β) p.toNat + szp β ((p.toNat : Nat) : Int) = _
    rw [show ((p.toNat : Nat) : Int) = p by omega]
  have hnn : ∀ j : Int, 0 ≤ j → j < ((zI β 0 34).toNat : Int) → 0 ≤ zA β 0 36 j := fun j a b => (wL.1 j a (by omega)).1
  have hmono : psum (szp β) (p + 1).toNat ≤ psum (szp β) (zI β 0 31).toNat := psum_mono _ (by omega) (fun j a b => (szp_bd w3 a (by omega)).1)
  have hbeg : 0 ≤ psum (zA β 0 36) (zA β 0 28 p).toNat ∧ psum (zA β 0 36) (zA β 0 28 p).toNat + zA β 0 36 (zA β 0 28 p) ≤ 400 := by
    refine ⟨psum_nn _ (fun j a b => hnn j a (by omega)), ?_⟩
    have h1 := psum_mono (f := zA β 0 36) (m := (zA β 0 28 p).toNat + 1) (zI β 0 34).toNat (by omega) hnn
    have h2 : psum (zA β 0 36) ((zA β 0 28 p).toNat + 1) = psum (zA β 0 36) (zA β 0 28 p).toNat + zA β 0 36 (((zA β 0 28 p).toNat : Nat) : Int) := rfl
    rw [show (((zA β 0 28 p).toNat : Nat) : Int) = zA β 0 28 p by omega] at h2
    omega
  have b : ∀ j : Nat, j ∉ WA → zA τ 0 j = zA β 0 j := hf.2
  have PU0 : PV β m τ τ d := ⟨⟨fr.rf, OU.rf, hM, hX, hR.2.1⟩, hR, OV.rf⟩
  have hUW : ∀ j ∈ UA, j ∈ WA := by decide
  have keep : ∀ (υ : ZS) (e : MD), PV β m τ υ e → ∀ j : Nat, j ∉ WA → zA υ 0 j = zA β 0 j := fun υ c h j hj => (h.1.1.2 j (fun q => hj (hUW j q))).trans (b j hj)
  have fin : ∀ (υ : ZS) (e : MD), PV β m τ υ e → 0 ≤ e.nf → 2 * e.nf ≤ psum (szp β) p.toNat + szp β p → e = qI β d p → Q υ := fun υ e h c0 c1 ee => by
    rw [ee] at h c0 c1
    exact hQ υ h.1.1 h.1.2.1 h.1.2.2.1 h.1.2.2.2.1 (by rw [hstep]; exact ⟨c0, c1⟩) h.2.1 h.2.2
  have hlim : d.nf + 1 ≤ 200 ∨ szp β p < 2 := by
    have := wL.2.2
    omega
  have set : ∀ (υ : ZS) (o bb : Int) (e : MD) (R : ZS → Prop), PV β m τ υ e → 0 ≤ o → o < zA β 0 36 (zA β 0 28 p) → (∀ ω : ZS, PV β m τ ω (mB e (qO β p o) bb) → R ω) → wpX11_set m (zA β 0 28 p) o bb υ R := fun υ o bb e R hP o0 o1 h => y_set hm hs w24 hbeg hT hP o0 o1 h
  have fix : ∀ (υ : ZS) (k o n : Int) (e : MD) (R : ZS → Prop), PV β m τ υ e → e.nf = d.nf → (0 ≤ k ∧ k ≤ 2) → 0 ≤ o → o + 2 ≤ zA β 0 36 (zA β 0 28 p) → (0 ≤ n ∧ n < 240) → -1 ≤ zA β 0 14 n → (zA β 0 13 n ≠ 3 → zA β 0 14 n < zI β 0 34) → 2 ≤ szp β p → (∀ ω : ZS, PV β m τ ω (mF e k (zA β 0 28 p) o n) → R ω) → wpX11_fix m k (zA β 0 28 p) o n υ R := fun υ k o n e R hP en hk o0 o1 hn a1 a2 z2 h => y_fix hm b w1 hs hP hk o0 o1 hn a1 a2 (by omega) h
  -- two bytes
  have two : ∀ (υ : ZS) (o v sk : Int) (e : MD), PV β m τ υ e → 0 ≤ e.nf → 2 * e.nf ≤ psum (szp β) p.toNat + szp β p → 0 ≤ o + sk → o + sk + 1 < zA β 0 36 (zA β 0 28 p) → (-2147483648 ≤ v ∧ v ≤ 2147483647) → mW e (qO β p (o + sk)) v = qI β d p → wpX11_put_320 m (zA β 0 28 p) o v sk υ Q := by
    intro υ o v sk e hP c0 c1 o0 o1 hv ee
    unfold wpX11_put_320
    refine set υ _ _ e _ hP o0 (by omega) (fun ω hω => ⟨hv, set ω _ _ _ _ hω (by omega) (by omega) (fun ψ hψ => fin ψ _ hψ c0 c1 ?_)⟩)
    rw [← ee, show qO β p (o + sk + 1) = qO β p (o + sk) + 1 by unfold qO; omega]
    rfl
  have dist : ∀ (υ : ZS) (e : MD) (R : Int → ZS → Prop), PV β m τ υ e → (0 ≤ zA β 0 25 p ∧ zA β 0 25 p < 240) → (-1000000 ≤ qD β p → qD β p ≤ 1000000 → R (qD β p) υ) → wpX11_distance p υ R := by
    intro υ e R hP hn hR'
    have ku := keep υ e hP
    have h3u : G3 υ := by unfold G3; rw [ku 24 (by decide), ku 25 (by decide), ku 26 (by decide), ku 27 (by decide), ku 28 (by decide), ku 30 (by decide)]; exact w3
    have hsz := szp_eq (ku 24 (by decide)) (ku 25 (by decide)) (ku 30 (by decide))
    have hbd : -1000000 ≤ qD β p ∧ qD β p ≤ 1000000 := by
      unfold qD
      have := wO (zA β 0 25 p) hn.1 hn.2
      omega
    refine s_distance h3u (by omega) (by rw [ku 25 (by decide)]; exact hn) ?_
    rw [ku 25 (by decide), ku 16 (by decide), ku 29 (by decide), hsz]
    exact hR' hbd.1 hbd.2
  have hszv : szp β p = szf (zA β 0 24 p) (zA β 0 25 p) (zA β 0 30 p) := rfl
  have hc1 := hc.1
  -- jumps and calls
  have f183 : zA β 0 24 p = 4 ∨ zA β 0 24 p = 6 → wpX11_put_183 m p (zA β 0 28 p) (zA β 0 29 p) (zA β 0 25 p) τ Q := by
    intro h46
    have hn := q2 (by omega) (by omega)
    have hso := (w1 _ hn.1 hn.2).1
    have f208 : ∀ s0 : Int, (s0 = 0 ∨ s0 = 1) → (s0 = 0 → szp β p = 2 ∧ zA β 0 13 (zA β 0 25 p) ≠ 3 ∧ zA β 0 24 p = 4) → (s0 = 1 → szp β p = 3) → (s0 = 0 → mB (mB d (qO β p (zA β 0 29 p)) 235) (qO β p (zA β 0 29 p + 1)) (qD β p) = qI β d p) → (s0 = 1 → qNe β (mB d (qO β p (zA β 0 29 p)) (if zA β 0 24 p = 6 then 232 else 233)) p = qI β d p) → wpX11_put_208 m p (zA β 0 28 p) (zA β 0 29 p) (zA β 0 25 p) s0 τ Q := by
      intro s0 h01 hz0 hz1 r0 r1
      have f246 : ∀ by_ : Int, (s0 = 0 → by_ = 235) → (s0 = 1 → by_ = (if zA β 0 24 p = 6 then 232 else 233)) → wpX11_put_246 m p (zA β 0 28 p) (zA β 0 29 p) (zA β 0 25 p) s0 by_ (zA β 0 29 p) (zA β 0 28 p) m τ Q := by
        intro by_ b0 b1
        unfold wpX11_put_246
        refine set τ _ _ d _ PU0 hat.1 (by omega) (fun υ hυ => ?_)
        have ku := keep υ _ hυ
        have f295 : ∀ (ω : ZS) (v : Int) (e : MD), PV β m τ ω e → 0 ≤ e.nf → 2 * e.nf ≤ psum (szp β) p.toNat + szp β p → (-1000000 ≤ v ∧ v ≤ 1000000) → (s0 = 0 → mB e (qO β p (zA β 0 29 p + 1)) v = qI β d p) → (s0 = 1 → mW e (qO β p (zA β 0 29 p + 1)) v = qI β d p) → wpX11_put_295 m (zA β 0 28 p) (zA β 0 29 p) v s0 ω Q := by
          intro ω v e hω c0 c1 hv r0 r1
          unfold wpX11_put_295
          refine ⟨by omega, fun n0 => two ω _ _ _ e hω c0 c1 (by omega) (by have := hz1 (by omega); omega) (by omega) (r1 (by omega)), fun e0 => set ω _ _ e _ hω (by omega) (by have := hz0 e0; omega) (fun ψ hψ => fin ψ _ hψ c0 c1 (r0 e0))⟩
        have f269 : ∀ v : Int, -1000000 ≤ v → v ≤ 1000000 → (zA β 0 13 (zA β 0 25 p) ≠ 3 → v = qD β p) → (zA β 0 13 (zA β 0 25 p) = 3 → v = 0) → wpX11_put_269 m (zA β 0 28 p) (zA β 0 29 p) (zA β 0 25 p) s0 v υ Q := by
          intro v v0 v1 ev1 ev2
          unfold wpX11_put_269
          rw [ku 13 (by decide)]
          refine ⟨hn, by omega, fun n3 => f295 υ v _ hυ hc1 (by show 2 * d.nf ≤ _; omega) ⟨v0, v1⟩ (fun z => ?_) (fun z => ?_), fun e3 => ?_⟩
          · rw [← r0 z, b0 z, ev1 n3]
          · rw [← r1 z, b1 z, ev1 n3]
            unfold qNe
            rw [if_neg n3]
          have z3 : szp β p = 3 := by
            rcases h01 with h | h
            · exact absurd e3 (hz0 h).2.1
            · exact hz1 h
          refine fix υ 2 _ _ _ _ hυ rfl (by decide) (by omega) (by omega) hn (w1 _ hn.1 hn.2).2.1.1 (fun q => absurd e3 q) (by omega) (fun ω hω => f295 ω v _ hω (by show 0 ≤ d.nf + 1; omega) (by show 2 * (d.nf + 1) ≤ _; omega) ⟨v0, v1⟩ (fun z => absurd e3 (hz0 z).2.1) (fun z => ?_))
          rw [← r1 z, b1 z, ev2 e3]
          unfold qNe
          rw [if_pos e3]
        rw [ku 13 (by decide)]
        exact ⟨hn, by omega, fun n3 => dist υ _ _ hυ hn (fun d0 d1 => f269 _ d0 d1 (fun _ => rfl) (fun q => absurd q n3)), fun y3 => f269 0 (by decide) (by decide) (fun q => absurd y3 q) (fun _ => rfl)⟩
      unfold wpX11_put_208
      rw [b 24 (by decide)]
      refine ⟨by omega, by omega, fun n6 => ⟨by omega, fun z => f246 235 (fun _ => rfl) (fun q => by omega), fun nz => f246 233 (fun q => absurd q nz) (fun _ => by rw [if_neg n6])⟩, fun y6 => f246 232 (fun q => by have := (hz0 q).2.2; omega) (fun _ => by rw [if_pos y6])⟩
    unfold wpX11_put_183 wpX11_put_203
    rw [b 24 (by decide), b 30 (by decide)]
    have p46 : ∀ x : MD, (zA β 0 24 p = 4 → x = (if zA β 0 30 p = 0 then mB (mB d (qO β p (zA β 0 29 p)) 235) (qO β p (zA β 0 29 p + 1)) (qD β p) else qNe β (mB d (qO β p (zA β 0 29 p)) 233) p)) → (zA β 0 24 p = 6 → x = qNe β (mB d (qO β p (zA β 0 29 p)) 232) p) → x = qI β d p := by
      intro x x4 x6
      unfold qI
      rw [if_neg (by omega), if_neg (by omega), if_neg (by omega), if_neg (by omega)]
      rcases h46 with e | e
      · rw [if_pos e]; exact x4 e
      · rw [if_neg (by omega), if_neg (by omega), if_pos e]; exact x6 e
    refine ⟨by omega, by omega, fun e6 => f208 1 (Or.inr rfl) (fun q => absurd q (by decide)) (fun _ => by rw [hszv, e6]; rfl) (fun q => absurd q (by decide)) (fun _ => p46 _ (fun q => by omega) (fun _ => by rw [if_pos e6])), fun n6 => ⟨by omega, fun z => ?_, fun nz => ?_⟩⟩
    · have e4 : zA β 0 24 p = 4 := by omega
      refine f208 0 (Or.inl rfl) (fun _ => ⟨by rw [hszv, e4, z]; rfl, fun e3 => ?_, e4⟩) (fun q => absurd q (by decide)) (fun _ => p46 _ (fun _ => by rw [if_pos z]) (fun q => absurd q n6)) (fun q => absurd q (by decide))
      have := wne p hp.1 hp.2 e4 e3
      omega
    · have e4 : zA β 0 24 p = 4 := by omega
      refine f208 1 (Or.inr rfl) (fun q => absurd q (by decide)) (fun _ => ?_) (fun q => absurd q (by decide)) (fun _ => p46 _ (fun _ => by rw [if_neg n6, if_neg nz]) (fun q => absurd q n6))
      rw [hszv, e4, show zA β 0 30 p = 1 by omega]; rfl
  have z1 : zA β 0 24 p = 0 → szp β p = 1 := fun e => by rw [hszv, e]; rfl
  unfold wpX11_put
  rw [b 24 (by decide), b 28 (by decide), b 29 (by decide), b 25 (by decide), b 13 (by decide), b 16 (by decide), b 26 (by decide)]
  refine ⟨by omega, by omega, fun e => set τ _ _ d _ PU0 hat.1 (by have := z1 e; omega) (fun υ hυ => fin υ _ hυ hc1 (by show 2 * d.nf ≤ _; omega) (by unfold qI; rw [if_pos e])), fun n0 => ⟨fun e => ?_, fun n1 => ⟨fun e => ?_, fun n2 => ⟨fun e => ?_, fun n3 => ⟨fun e => f183 (Or.inl e), fun n4 => ⟨fun e => ?_, fun n5 => ⟨fun e => f183 (Or.inr e), fun n6 => fin τ d PU0 hc1 (by omega) (by unfold qI; rw [if_neg n0, if_neg n1, if_neg n2, if_neg n3, if_neg n4, if_neg n5, if_neg n6])⟩⟩⟩⟩⟩⟩⟩
  · have z2 : szp β p = 2 := by rw [hszv, e]; rfl
    exact two τ _ _ _ d PU0 hc1 (by omega) (by omega) (by omega) (by omega) (by unfold qI; rw [if_neg n0, if_pos e, Int.add_zero])
  · have z2 : szp β p = 2 := by rw [hszv, e]; rfl
    have hn := q2 (by omega) (by omega)
    have hso := (w1 _ hn.1 hn.2).1
    have hof := wO _ hn.1 hn.2
    have hab := wab p hp.1 hp.2 (Or.inl e)
    have f122 : ∀ s1 s0 : Int, -30000000 ≤ s1 + s0 → s1 + s0 ≤ 30000000 → s0 + s1 = zA β 0 26 p + (if zA β 0 13 (zA β 0 25 p) = 2 then zA β 0 16 (zA β 0 25 p) else 0) → wpX11_put_122 m (zA β 0 28 p) (zA β 0 29 p) (zA β 0 25 p) 0 s1 s0 τ Q := by
      intro s1 s0 z0 z1 es
      unfold wpX11_put_122
      exact fix τ 0 _ _ d _ PU0 rfl (by decide) hat.1 (by omega) hn hab.1 hab.2 (by omega) (fun ω hω => two ω _ _ _ _ hω (by show 0 ≤ d.nf + 1; omega) (by show 2 * (d.nf + 1) ≤ _; omega) (by omega) (by omega) (by omega) (by unfold qI; rw [if_neg n0, if_neg n1, if_pos e, Int.add_zero, es]))
    exact ⟨hn, by omega, fun n2' => f122 _ _ (by omega) (by omega) (by rw [if_neg n2']), fun y2 => f122 _ _ (by omega) (by omega) (by rw [if_pos y2])⟩
  · have z2 : szp β p = 2 := by rw [hszv, e]; rfl
    have hn := q2 (by omega) (by omega)
    have hab := wab p hp.1 hp.2 (Or.inr e)
    exact fix τ 1 _ _ d _ PU0 rfl (by decide) hat.1 (by omega) hn hab.1 hab.2 (by omega) (fun ω hω => two ω _ _ _ _ hω (by show 0 ≤ d.nf + 1; omega) (by show 2 * (d.nf + 1) ≤ _; omega) (by omega) (by omega) (by decide) (by unfold qI; rw [if_neg n0, if_neg n1, if_neg n2, if_pos e, Int.add_zero]))
  · have z2 : szp β p = 2 := by rw [hszv, e]; rfl
    have hn := q2 (by omega) (by omega)
    exact set τ _ _ d _ PU0 hat.1 (by omega) (fun υ hυ => dist υ _ _ hυ hn (fun d0 d1 => set υ _ _ _ _ hυ (by omega) (by omega) (fun ψ hψ => fin ψ _ hψ hc1 (by show 2 * d.nf ≤ _; omega) (by unfold qI; rw [if_neg n0, if_neg n1, if_neg n2, if_neg n3, if_neg n4, if_pos e]))))
/-! Y: the reference writes a module, exactly -/
def OY (m : Int) (σ τ : ZS) : Prop := OU m σ τ ∧ OV m σ τ
theorem OY.rf {m : Int} {σ : ZS} : OY m σ σ := ⟨OU.rf, OV.rf⟩
theorem OY.tr {m : Int} {σ τ υ : ZS} (h : OY m σ τ) (k : OY m τ υ) : OY m σ υ := ⟨h.1.tr k.1, h.2.tr k.2⟩
theorem OY.u44 {m v : Int} {σ τ : ZS} (h : OY m σ τ) : OY m σ (zsA τ 0 44 m v) := ⟨h.1.u44, h.2⟩
theorem OY.u50 {m v : Int} {σ τ : ZS} (h : OY m σ τ) : OY m σ (zsA τ 0 50 m v) := ⟨h.1.u50, h.2⟩
theorem OY.u56 {m v : Int} {σ τ : ZS} (h : OY m σ τ) : OY m σ (zsA τ 0 56 m v) := ⟨h.1.u56, h.2⟩
theorem OY.u45 {m i v : Int} {σ τ : ZS} (h : OY m σ τ) (hi : 24 * m ≤ i ∧ i < 24 * m + 24) : OY m σ (zsA τ 0 45 i v) := ⟨h.1.u45, fun j hj => (pu_ne (by omega)).trans (h.2.1 j hj), h.2.2⟩
theorem OY.u46 {m i v : Int} {σ τ : ZS} (h : OY m σ τ) (hi : 24 * m ≤ i ∧ i < 24 * m + 24) : OY m σ (zsA τ 0 46 i v) := ⟨h.1.u46 hi, h.2⟩
theorem OY.u47 {m i v : Int} {σ τ : ZS} (h : OY m σ τ) (hi : 24 * m ≤ i ∧ i < 24 * m + 24) : OY m σ (zsA τ 0 47 i v) := ⟨h.1.u47 hi, h.2⟩
theorem OY.u48 {m i v : Int} {σ τ : ZS} (h : OY m σ τ) (hi : 24 * m ≤ i ∧ i < 24 * m + 24) : OY m σ (zsA τ 0 48 i v) := ⟨h.1.u48 hi, h.2⟩
theorem OY.u49 {m i v : Int} {σ τ : ZS} (h : OY m σ τ) (hi : 400 * m ≤ i ∧ i < 400 * m + 400) : OY m σ (zsA τ 0 49 i v) := ⟨h.1.u49, h.2.1, fun j hj => (pu_ne (by omega)).trans (h.2.2.1 j hj), h.2.2.2⟩
theorem OY.u57 {m i v : Int} {σ τ : ZS} (h : OY m σ τ) (hi : 80 * m ≤ i ∧ i < 80 * m + 80) : OY m σ (zsA τ 0 57 i v) := ⟨h.1.u57, h.2.1, h.2.2.1, h.2.2.2.1, fun j hj => (pu_ne (by omega)).trans (h.2.2.2.2 j hj)⟩
theorem OY.u58 {m i v : Int} {σ τ : ZS} (h : OY m σ τ) (hi : 80 * m ≤ i ∧ i < 80 * m + 80) : OY m σ (zsA τ 0 58 i v) := ⟨h.1.u58 hi, h.2⟩
theorem OY.u59 {m i v : Int} {σ τ : ZS} (h : OY m σ τ) (hi : 80 * m ≤ i ∧ i < 80 * m + 80) : OY m σ (zsA τ 0 59 i v) := ⟨h.1.u59 hi, h.2⟩
def WIy (β : ZS) (m : Int) (τ : ZS) : Prop := fr [] WB β τ ∧ OY m β τ ∧ GM τ ∧ zA τ 0 44 m = zI β 0 34
/-- segments -/
def RG (β : ZS) (m : Int) (τ : ZS) (n : Int) : Prop := ∀ s : Int, 0 ≤ s → s < n → zA τ 0 47 (24 * m + s) = psum (zA β 0 36) s.toNat ∧ zA τ 0 48 (24 * m + s) = zA β 0 36 s ∧ zA τ 0 46 (24 * m + s) = zA β 0 15 (zA β 0 35 s) ∧ zA τ 0 45 (24 * m + s) = zA β 0 12 (zA β 0 35 s)
/-- pieces put so far -/
def qK (β : ZS) : Nat → MD
  | 0 => mD0
  | k + 1 => qI β (qK β k) k
theorem qK_s {β : ZS} {v : Int} (h : 0 ≤ v) : qK β (v + 1).toNat = qI β (qK β v.toNat) v := by
  rw [show (v + 1).toNat = v.toNat + 1 by omega]
  show qI β (qK β v.toNat) (v.toNat : Int) = _
  rw [show ((v.toNat : Nat) : Int) = v by omega]
/-- publics -/
def PY (β : ZS) (m : Int) (τ : ZS) (v : Int) : Prop := (∀ k : Int, 0 ≤ k → k < zA τ 0 56 m → ∃ u : Int, (0 ≤ u ∧ u < v) ∧ zA β 0 19 u = 0 ∧ zA τ 0 57 (80 * m + k) = zA β 0 12 (zA β 0 20 u) ∧ zA τ 0 58 (80 * m + k) = zA β 0 14 (zA β 0 20 u) ∧ zA τ 0 59 (80 * m + k) = zA β 0 16 (zA β 0 20 u)) ∧ (∀ u : Int, 0 ≤ u → u < v → zA β 0 19 u = 0 → ∃ k : Int, (0 ≤ k ∧ k < zA τ 0 56 m) ∧ zA τ 0 57 (80 * m + k) = zA β 0 12 (zA β 0 20 u) ∧ zA τ 0 58 (80 * m + k) = zA β 0 14 (zA β 0 20 u) ∧ zA τ 0 59 (80 * m + k) = zA β 0 16 (zA β 0 20 u))
theorem y_write_b {β : ZS} {m : Int} {Q : ZS → Prop} (hW : WC β) (hM : GM β) (hm : 0 ≤ m ∧ m ≤ 2) (hQ : ∀ τ : ZS, fr [] WB β τ → OY m β τ → GM τ → MI τ m → zA τ 0 44 m = zI β 0 34 → RG β m τ (zI β 0 34) → MQr β m τ (qK β (zI β 0 31).toNat) → PY β m τ (zI β 0 23) → Q τ) : wpX11_write_35 m 0 0 (zsA (zsA (zsA β 0 44 m (zI β 0 34)) 0 50 m 0) 0 56 m 0) Q := by
  have hWC := hW
  obtain ⟨w1, w2, w3, wO, wL, wS, w24, wal, wsum, wne, wab, wpb, wus, wcn⟩ := hW
  obtain ⟨s31, s34, sg⟩ := wS
  have hnn : ∀ j : Int, 0 ≤ j → j < ((zI β 0 34).toNat : Int) → 0 ≤ zA β 0 36 j := fun j a b => (wL.1 j a (by omega)).1
  have hps : ∀ s : Int, 0 ≤ s → psum (zA β 0 36) (s + 1).toNat = psum (zA β 0 36) s.toNat + zA β 0 36 s := by
    intro s s0
    rw [show (s + 1).toNat = s.toNat + 1 by omega]
    show psum (zA β 0 36) s.toNat + zA β 0 36 ((s.toNat : Nat) : Int) = _
    rw [show ((s.toNat : Nat) : Int) = s by omega]
  have hpm : ∀ s : Int, 0 ≤ s → s ≤ zI β 0 34 → 0 ≤ psum (zA β 0 36) s.toNat ∧ psum (zA β 0 36) s.toNat ≤ 400 := by
    intro s s0 s1
    have := psum_mono (f := zA β 0 36) (m := s.toNat) (zI β 0 34).toNat (by omega) hnn
    exact ⟨psum_nn _ (fun j a b => hnn j a (by omega)), by omega⟩
  -- the publics
  have f183 : ∀ τ : ZS, WIy β m τ → RG β m τ (zI β 0 34) → FX β m τ → (0 ≤ zA τ 0 50 m ∧ zA τ 0 50 m ≤ 200) → zA τ 0 56 m = 0 → MQr β m τ (qK β (zI β 0 31).toNat) → wpX11_write_183 m 0 τ Q := by
    intro τ0 h0 hS0 hX0 hc0 he0 hq0
    unfold wpX11_write_183
    refine lfp1_ind (fun v _ => (zI β 0 23 - v).toNat) (fun v τ => WIy β m τ ∧ RG β m τ (zI β 0 34) ∧ FX β m τ ∧ (0 ≤ zA τ 0 50 m ∧ zA τ 0 50 m ≤ 200) ∧ (0 ≤ v ∧ v ≤ zI β 0 23) ∧ zA τ 0 56 m = cntP (zA β 0 19) v.toNat ∧ PB β m τ ∧ MQr β m τ (qK β (zI β 0 31).toNat) ∧ PY β m τ v) ?_ ⟨h0, hS0, hX0, hc0, by omega, he0, fun k k0 k1 => absurd k1 (by rw [he0]; omega), hq0, fun k k0 k1 => absurd k1 (by rw [he0]; omega), fun u u0 u1 => absurd u1 (by omega)⟩
    intro P v τ ⟨hI, hS, hX, hc, hv, h56, hP, hq, hy⟩ ih
    obtain ⟨hf, hO, hG, h44⟩ := hI
    have b := hf.2
    have i23 : zI τ 0 23 = zI β 0 23 := hf.1 23 (by decide)
    have hcl := cntP_le (h := zA β 0 19) v.toNat
    show wpbX11_write_183 P m v τ Q
    unfold wpbX11_write_183 wpX11_write_280
    rw [i23, b 19 (by decide), b 20 (by decide), b 12 (by decide), b 14 (by decide), b 16 (by decide)]
    refine ⟨by omega, by omega, fun e => ?_, fun ne => ?_⟩
    · have hev : v = zI β 0 23 := by omega
      rw [hev] at h56 hcl hy
      refine hQ τ hf hO hG ⟨⟨by omega, hc, by omega⟩, fun s s0 s1 => ?_, fun k k0 k1 => ?_, fun k k0 k1 => ?_⟩ h44 hS hq hy
      · rw [h44] at s1
        obtain ⟨x1, x2, x3, x4⟩ := hS s s0 s1
        rw [x1, x2, x3]
        have h1 := hpm s s0 (by omega)
        have h2 := hpm (s + 1) (by omega) (by omega)
        have h3 := hps s s0
        have h4 := wL.1 s s0 s1
        have h5 := wal s s0 s1
        exact ⟨h1.1, h4.1, by omega, h5.2, (w1 _ h5.1.1 h5.1.2).2.2.1.2⟩
      · obtain ⟨y1, y2, y3, y4, y5⟩ := hX k k0 k1
        rw [h44]
        refine ⟨y1, y2, y3, ?_, y5⟩
        rw [(hS _ y2.1 y2.2).2.1]; exact y4
      · rw [h44]; exact hP k k0 k1
    · have hu := w2 v hv.1 (by omega)
      have hcv : cntP (zA β 0 19) (v + 1).toNat = cntP (zA β 0 19) v.toNat + (if zA β 0 19 v = 0 then 1 else 0) := by
        rw [show (v + 1).toNat = v.toNat + 1 by omega]
        show cntP (zA β 0 19) v.toNat + (if zA β 0 19 ((v.toNat : Nat) : Int) = 0 then 1 else 0) = _
        rw [show ((v.toNat : Nat) : Int) = v by omega]
      have hcm := cntP_mono (h := zA β 0 19) (m := (v + 1).toNat) (zI β 0 23).toNat (by omega)
      refine ⟨by omega, by omega, fun z => ?_, fun nz => ?_⟩
      · rw [if_pos z] at hcv
        have hn := hu.2.1
        have ha := wus.1
        have hk : 0 ≤ zA τ 0 56 m ∧ zA τ 0 56 m ≤ 79 := by omega
        have hn14 := wpb v hv.1 (by omega) z
        have hn16 := wO _ hn.1 hn.2
        have e56 : zA (zsA (zsA (zsA (zsA τ 0 57 (80 * m + zA τ 0 56 m) (zA β 0 12 (zA β 0 20 v))) 0 58 (80 * m + zA τ 0 56 m) (zA β 0 14 (zA β 0 20 v))) 0 59 (80 * m + zA τ 0 56 m) (zA β 0 16 (zA β 0 20 v))) 0 56 m (zA τ 0 56 m + 1)) 0 56 m = zA τ 0 56 m + 1 := pu_eq (h := zA τ 0 56)
        refine ⟨by omega, hn, by omega, ih _ _ ⟨⟨((((hf.ta (by decide)).ta (by decide)).ta (by decide)).ta (by decide)), ((((hO.u57 (by omega)).u58 (by omega)).u59 (by omega)).u56), hG.u57 (w1 _ hn.1 hn.2).2.2.2, h44⟩, hS, hX, hc, by omega, ?_, ?_, hq, ?_, ?_⟩ (by show (zI β 0 23 - (v + 1)).toNat < (zI β 0 23 - v).toNat; omega)⟩
        · rw [e56, h56, hcv]
        · intro k k0 k1
          rw [e56] at k1
          show (0 ≤ zu (zA τ 0 58) (80 * m + zA τ 0 56 m) (zA β 0 14 (zA β 0 20 v)) (80 * m + k) ∧ zu (zA τ 0 58) (80 * m + zA τ 0 56 m) (zA β 0 14 (zA β 0 20 v)) (80 * m + k) < zI β 0 34) ∧ (0 ≤ zu (zA τ 0 59) (80 * m + zA τ 0 56 m) (zA β 0 16 (zA β 0 20 v)) (80 * m + k) ∧ zu (zA τ 0 59) (80 * m + zA τ 0 56 m) (zA β 0 16 (zA β 0 20 v)) (80 * m + k) ≤ 62000)
          by_cases e : k = zA τ 0 56 m
          · rw [e, pu_eq, pu_eq]; exact ⟨hn14, hn16⟩
          · have hne : 80 * m + k ≠ 80 * m + zA τ 0 56 m := by omega
            rw [pu_ne hne, pu_ne hne]
            exact hP k k0 (by omega)
        · intro k k0 k1
          rw [e56] at k1
          show ∃ u : Int, (0 ≤ u ∧ u < v + 1) ∧ zA β 0 19 u = 0 ∧ zu (zA τ 0 57) (80 * m + zA τ 0 56 m) (zA β 0 12 (zA β 0 20 v)) (80 * m + k) = zA β 0 12 (zA β 0 20 u) ∧ zu (zA τ 0 58) (80 * m + zA τ 0 56 m) (zA β 0 14 (zA β 0 20 v)) (80 * m + k) = zA β 0 14 (zA β 0 20 u) ∧ zu (zA τ 0 59) (80 * m + zA τ 0 56 m) (zA β 0 16 (zA β 0 20 v)) (80 * m + k) = zA β 0 16 (zA β 0 20 u)
          by_cases e : k = zA τ 0 56 m
          · rw [e, pu_eq, pu_eq, pu_eq]; exact ⟨v, by omega, z, rfl, rfl, rfl⟩
          · have hne : 80 * m + k ≠ 80 * m + zA τ 0 56 m := by omega
            rw [pu_ne hne, pu_ne hne, pu_ne hne]
            obtain ⟨u, x1, x2⟩ := hy.1 k k0 (by omega)
            exact ⟨u, by omega, x2⟩
        · intro u u0 u1 uz
          show ∃ k : Int, (0 ≤ k ∧ k < zA (zsA (zsA (zsA (zsA τ 0 57 (80 * m + zA τ 0 56 m) (zA β 0 12 (zA β 0 20 v))) 0 58 (80 * m + zA τ 0 56 m) (zA β 0 14 (zA β 0 20 v))) 0 59 (80 * m + zA τ 0 56 m) (zA β 0 16 (zA β 0 20 v))) 0 56 m (zA τ 0 56 m + 1)) 0 56 m) ∧ zu (zA τ 0 57) (80 * m + zA τ 0 56 m) (zA β 0 12 (zA β 0 20 v)) (80 * m + k) = zA β 0 12 (zA β 0 20 u) ∧ zu (zA τ 0 58) (80 * m + zA τ 0 56 m) (zA β 0 14 (zA β 0 20 v)) (80 * m + k) = zA β 0 14 (zA β 0 20 u) ∧ zu (zA τ 0 59) (80 * m + zA τ 0 56 m) (zA β 0 16 (zA β 0 20 v)) (80 * m + k) = zA β 0 16 (zA β 0 20 u)
          rw [e56]
          by_cases e : u = v
          · refine ⟨zA τ 0 56 m, by omega, ?_⟩
            rw [e, pu_eq, pu_eq, pu_eq]; exact ⟨rfl, rfl, rfl⟩
          · obtain ⟨k, x1, x2⟩ := hy.2 u u0 (by omega) uz
            refine ⟨k, by omega, ?_⟩
            have hne : 80 * m + k ≠ 80 * m + zA τ 0 56 m := by omega
            rw [pu_ne hne, pu_ne hne, pu_ne hne]; exact x2
      · rw [if_neg nz] at hcv
        refine ih _ _ ⟨⟨hf, hO, hG, h44⟩, hS, hX, hc, by omega, by omega, hP, hq, fun k k0 k1 => ?_, fun u u0 u1 uz => ?_⟩ (by show (zI β 0 23 - (v + 1)).toNat < (zI β 0 23 - v).toNat; omega)
        · obtain ⟨u, x1, x2⟩ := hy.1 k k0 k1
          exact ⟨u, by omega, x2⟩
        · by_cases e : u = v
          · rw [e] at uz; exact absurd uz nz
          · exact hy.2 u u0 (by omega) uz
  -- the pieces
  have f161 : ∀ τ : ZS, WIy β m τ → RG β m τ (zI β 0 34) → MQr β m τ mD0 → zA τ 0 56 m = 0 → wpX11_write_161 m 0 τ Q := by
    intro τ0 h0 hS0 hq0 he0
    have hc0 : zA τ0 0 50 m = 0 := hq0.2.1
    unfold wpX11_write_161
    refine lfp1_ind (fun v _ => (zI β 0 31 - v).toNat) (fun v τ => WIy β m τ ∧ RG β m τ (zI β 0 34) ∧ FX β m τ ∧ (0 ≤ (qK β v.toNat).nf ∧ 2 * (qK β v.toNat).nf ≤ psum (szp β) v.toNat) ∧ (0 ≤ v ∧ v ≤ zI β 0 31) ∧ zA τ 0 56 m = 0 ∧ MQr β m τ (qK β v.toNat)) ?_ ⟨h0, hS0, fun k k0 k1 => absurd k1 (by rw [hc0]; omega), ⟨Int.le_refl _, Int.le_refl _⟩, by omega, he0, hq0⟩
    intro P v τ ⟨hI, hS, hX, hc, hv, h56, hq⟩ ih
    obtain ⟨hf, hO, hG, h44⟩ := hI
    have i31 : zI τ 0 31 = zI β 0 31 := hf.1 31 (by decide)
    show wpbX11_write_161 P m v τ Q
    unfold wpbX11_write_161
    rw [i31]
    refine ⟨by omega, by omega, fun e => ?_, fun ne => ?_⟩
    · have hev : v = zI β 0 31 := by omega
      have h3 := wL.2.2
      have h50 := hq.2.1
      rw [hev] at hc hq h50
      exact f183 τ ⟨hf, hO, hG, h44⟩ hS hX (by omega) h56 hq
    · refine y_put hWC hm ⟨hv.1, by omega⟩ (hf.up (by decide) (by decide)) (fun s s0 s1 => ⟨(hS s s0 s1).1, (hS s s0 s1).2.1⟩) hG hX hc hq (fun υ hfu hOu hGu hXu hcu hqu hvu => ?_)
      have e45 : zA υ 0 45 = zA τ 0 45 := hfu.2 45 (by decide)
      have e46 : zA υ 0 46 = zA τ 0 46 := hfu.2 46 (by decide)
      have e47 : zA υ 0 47 = zA τ 0 47 := hfu.2 47 (by decide)
      have e48 : zA υ 0 48 = zA τ 0 48 := hfu.2 48 (by decide)
      have e44 : zA υ 0 44 = zA τ 0 44 := hfu.2 44 (by decide)
      have e56 : zA υ 0 56 = zA τ 0 56 := hfu.2 56 (by decide)
      refine ih _ _ ⟨⟨hf.tr (hfu.up (by decide) (by decide)), hO.tr ⟨hOu, hvu⟩, hGu, by rw [e44]; exact h44⟩, ?_, hXu, by rw [qK_s hv.1]; exact hcu, by omega, by rw [e56]; exact h56, by rw [qK_s hv.1]; exact hqu⟩ (by show (zI β 0 31 - (v + 1)).toNat < (zI β 0 31 - v).toNat; omega)
      intro s s0 s1
      rw [e45, e46, e47, e48]; exact hS s s0 s1
  -- the bytes are cleared
  have f133 : ∀ τ : ZS, WIy β m τ → RG β m τ (zI β 0 34) → zA τ 0 50 m = 0 → zA τ 0 56 m = 0 → wpX11_write_133 m 0 τ Q := by
    intro τ0 h0 hS0 hc0 he0
    unfold wpX11_write_133
    refine lfp1_ind (fun v _ => (400 - v).toNat) (fun v τ => WIy β m τ ∧ RG β m τ (zI β 0 34) ∧ zA τ 0 50 m = 0 ∧ (0 ≤ v ∧ v ≤ 400) ∧ zA τ 0 56 m = 0 ∧ (∀ j : Int, 0 ≤ j → j < v → zA τ 0 49 (400 * m + j) = 0)) ?_ ⟨h0, hS0, hc0, by omega, he0, fun j j0 j1 => absurd j1 (by omega)⟩
    intro P v τ ⟨hI, hS, hc, hv, h56, hz⟩ ih
    show wpbX11_write_133 P m v τ Q
    unfold wpbX11_write_133
    refine ⟨by omega, fun e => f161 τ hI hS ⟨fun j j0 j1 => hz j j0 (by omega), hc, fun k k0 k1 => absurd (show k < 0 from k1) (by omega)⟩ h56, fun ne => ⟨by omega, ih _ _ ⟨⟨hI.1.ta (by decide), hI.2.1.u49 (by omega), hI.2.2.1.u49 (by decide), hI.2.2.2⟩, hS, hc, by omega, h56, fun j j0 j1 => ?_⟩ (by show (400 - (v + 1)).toNat < (400 - v).toNat; omega)⟩⟩
    show zu (zA τ 0 49) (400 * m + v) 0 (400 * m + j) = 0
    by_cases e : j = v
    · rw [e, pu_eq]
    · rw [pu_ne (by omega)]; exact hz j j0 (by omega)
  unfold wpX11_write_35
  refine lfp2_ind (fun _ v _ => (zI β 0 34 - v).toNat) (fun a v τ => WIy β m τ ∧ RG β m τ v ∧ zA τ 0 50 m = 0 ∧ (0 ≤ v ∧ v ≤ zI β 0 34) ∧ zA τ 0 56 m = 0 ∧ a = psum (zA β 0 36) v.toNat) ?_ ⟨⟨(((fr.rf.ta (by decide)).ta (by decide)).ta (by decide)), (OY.rf.u44.u50.u56), hM, pu_eq (h := zA β 0 44)⟩, fun s s0 s1 => absurd s1 (by omega), pu_eq (h := zA β 0 50), by omega, pu_eq (h := zA β 0 56), rfl⟩
  intro P a v τ ⟨hI, hS, hc, hv, h56, ha⟩ ih
  obtain ⟨hf, hO, hG, h44⟩ := hI
  have b := hf.2
  have i34 : zI τ 0 34 = zI β 0 34 := hf.1 34 (by decide)
  show wpbX11_write_35 P m a v τ Q
  unfold wpbX11_write_35
  rw [i34, b 35 (by decide), b 12 (by decide), b 15 (by decide), b 36 (by decide)]
  refine ⟨by omega, by omega, fun e => ?_, fun ne => ?_⟩
  · have hev : v = zI β 0 34 := by omega
    exact f133 τ ⟨hf, hO, hG, h44⟩ (hev ▸ hS) hc h56
  · have hn := (wal v hv.1 (by omega)).1
    have hal := (wal v hv.1 (by omega)).2
    have hg := w1 _ hn.1 hn.2
    refine ⟨by omega, hn, by omega, ih _ _ _ ⟨⟨((((hf.ta (by decide)).ta (by decide)).ta (by decide)).ta (by decide)), ((((hO.u45 (by omega)).u46 (by omega)).u47 (by omega)).u48 (by omega)), hG.u45 hg.2.2.2, h44⟩, ?_, hc, by omega, h56, ?_⟩ (by show (zI β 0 34 - (v + 1)).toNat < (zI β 0 34 - v).toNat; omega)⟩
    · intro s s0 s1
      show zu (zA τ 0 47) (24 * m + v) a (24 * m + s) = _ ∧ zu (zA τ 0 48) (24 * m + v) (zA β 0 36 v) (24 * m + s) = _ ∧ zu (zA τ 0 46) (24 * m + v) (zA β 0 15 (zA β 0 35 v)) (24 * m + s) = _ ∧ zu (zA τ 0 45) (24 * m + v) (zA β 0 12 (zA β 0 35 v)) (24 * m + s) = _
      by_cases e : s = v
      · rw [e, pu_eq, pu_eq, pu_eq, pu_eq]; exact ⟨ha, rfl, rfl, rfl⟩
      · have hne : 24 * m + s ≠ 24 * m + v := by omega
        rw [pu_ne hne, pu_ne hne, pu_ne hne, pu_ne hne]
        exact hS s s0 (by omega)
    · rw [ha, hps v hv.1]
theorem y_write {β : ZS} {m : Int} {Q : ZS → Prop} (hW : WC β) (hM : GM β) (hm : 0 ≤ m ∧ m ≤ 2) (hQ : ∀ τ : ZS, fr [] WA β τ → OY m β τ → GM τ → MI τ m → zA τ 0 43 = zu (zA β 0 43) m 1 → zA τ 0 44 m = zI β 0 34 → RG β m τ (zI β 0 34) → MQr β m τ (qK β (zI β 0 31).toNat) → PY β m τ (zI β 0 23) → Q τ) : wpX11_write m β Q := by
  unfold wpX11_write
  refine ⟨by omega, y_write_b (β := zsA β 0 43 m 1) hW (hM.u43 (by decide)) hm (fun τ f o g mi e44 rg mq py => ?_)⟩
  have f0 : fr [] WA β (zsA β 0 43 m 1) := fr.rf.ta (by decide)
  have qe : ∀ k : Nat, qK (zsA β 0 43 m 1) k = qK β k := by
    intro k
    induction k with
    | zero => rfl
    | succ k ih => show qI (zsA β 0 43 m 1) (qK (zsA β 0 43 m 1) k) k = qI β (qK β k) k; rw [ih]; rfl
  have o0 : OY m β (zsA β 0 43 m 1) := ⟨OU.rf.u43 (v := 1), OV.rf⟩
  refine hQ τ (f0.tr (f.up (by decide) (by decide))) (o0.tr o) g mi (f.2 43 (by decide)) e44 rg ?_ py
  have mq' := mq
  rw [show (zI (zsA β 0 43 m 1) 0 31).toNat = (zI β 0 31).toNat from rfl, qe] at mq'
  exact mq'
/-! X: what no item has written is zero -/
theorem mB_o {d : MD} {i v q : Int} (h : q ≠ i) : (mB d i v).co q = d.co q := pu_ne h
theorem mW_o {d : MD} {i v q : Int} (h : q ≠ i) (k : q ≠ i + 1) : (mW d i v).co q = d.co q := (mB_o (d := mB d i v) k).trans (mB_o h)
theorem mW_0 {d : MD} {i : Int} (h : d.co i = 0) (k : d.co (i + 1) = 0) : mW d i 0 = d := by
  have e : zu (zu d.co i (0 % 256)) (i + 1) (0 / 256 % 256) = d.co := by
    funext j
    by_cases e1 : j = i + 1
    · rw [e1, pu_eq, k]; rfl
    · rw [pu_ne e1]
      by_cases e2 : j = i
      · rw [e2, pu_eq, h]; rfl
      · rw [pu_ne e2]
  show (zu (zu d.co i (0 % 256)) (i + 1) (0 / 256 % 256), d.2) = d
  rw [e]; rfl
theorem mNe_co {a b c g X r : Int → Int} {N : Nat} {d : MD} {i q : Int} (h : q < stS a b g X N (g i) + ofS a b g X i ∨ stS a b g X N (g i) + ofS a b g X i + 3 ≤ q) : (mNe a b c g X r N d i).co q = d.co q := by
  unfold mNe
  split
  · rfl
  · exact mW_o (by omega) (by omega)
theorem mI_co {a b c g X r : Int → Int} {N : Nat} {d : MD} {i q : Int} (hb : a i = 5 → 0 ≤ b i) (h : q < stS a b g X N (g i) + ofS a b g X i ∨ stS a b g X N (g i) + ofS a b g X i + sI a b X i ≤ q) : (mI a b c g X r N d i).co q = d.co q := by
  have s0 := sI_nn (X := X) hb
  unfold mI
  by_cases n0 : g i < 0
  · rw [if_pos n0]
  rw [if_neg n0]
  by_cases n4 : a i = 4
  · rw [if_pos n4]
    have s1 : sI a b X i = 1 := by unfold sI; rw [if_pos n4]
    exact mB_o (by omega)
  rw [if_neg n4]
  by_cases n6 : a i = 6
  · rw [if_pos n6]
    have s2 : sI a b X i = 2 := by unfold sI; rw [if_neg n4, if_neg (by omega), if_neg (by omega), if_pos (by omega)]
    exact mW_o (by omega) (by omega)
  rw [if_neg n6]
  by_cases n7 : a i = 7
  · rw [if_pos n7]
    have s2 : sI a b X i = 2 := by unfold sI; rw [if_neg n4, if_neg (by omega), if_neg (by omega), if_pos (by omega)]
    exact mW_o (by omega) (by omega)
  rw [if_neg n7]
  by_cases n8 : a i = 8
  · rw [if_pos n8]; rfl
  rw [if_neg n8]
  by_cases n9 : a i = 9
  · rw [if_pos n9]
    by_cases x0 : X i = 0
    · rw [if_pos x0]
      have s2 : sI a b X i = 2 := by unfold sI; rw [if_neg n4, if_neg (by omega), if_pos n9, if_pos x0]
      exact (mB_o (d := mB d _ _) (by omega)).trans (mB_o (by omega))
    · rw [if_neg x0]
      have s3 : sI a b X i = 3 := by unfold sI; rw [if_neg n4, if_neg (by omega), if_pos n9, if_neg x0]
      exact (mNe_co (d := mB d _ _) (by omega)).trans (mB_o (by omega))
  rw [if_neg n9]
  by_cases n10 : a i = 10
  · rw [if_pos n10]
    have s2 : sI a b X i = 2 := by unfold sI; rw [if_neg n4, if_neg (by omega), if_neg (by omega), if_pos (by omega)]
    exact (mB_o (d := mB d _ _) (by omega)).trans (mB_o (by omega))
  rw [if_neg n10]
  by_cases n11 : a i = 11
  · rw [if_pos n11]
    have s3 : sI a b X i = 3 := by unfold sI; rw [if_neg n4, if_neg (by omega), if_neg n9, if_neg (by omega), if_pos n11]
    exact (mNe_co (d := mB d _ _) (by omega)).trans (mB_o (by omega))
  rw [if_neg n11]
  by_cases n12 : a i = 12
  · rw [if_pos n12]
    have s5 : sI a b X i = 5 := by unfold sI; rw [if_neg n4, if_neg (by omega), if_neg n9, if_neg (by omega), if_neg n11, if_pos n12]
    exact (mW_o (d := mB d _ _) (by omega) (by omega)).trans (mB_o (by omega))
  rw [if_neg n12]
theorem st_s {a b g X : Int → Int} {N : Nat} {s : Int} (h : 0 ≤ s) : stS a b g X N (s + 1) = stS a b g X N s + oS a b g X s N := by
  unfold stS
  rw [show (s + 1).toNat = s.toNat + 1 by omega]
  show psum (fun s => oS a b g X s N) s.toNat + oS a b g X (s.toNat : Int) N = _
  rw [show ((s.toNat : Nat) : Int) = s by omega]
theorem st_le {a b g X : Int → Int} {N : Nat} {s t : Int} (hb : ∀ j : Nat, j < N → a j = 5 → 0 ≤ b j) (h : 0 ≤ s) (k : s < t) : stS a b g X N s + oS a b g X s N ≤ stS a b g X N t := by
  rw [← st_s h]
  unfold stS
  exact psum_mono _ (by omega) (fun j _ _ => oS_nn N hb)
theorem mZ {a b c g X r : Int → Int} {N : Nat} (hb : ∀ j : Nat, j < N → a j = 5 → 0 ≤ b j) : ∀ k : Nat, k ≤ N → ∀ s o : Int, 0 ≤ s → oS a b g X s k ≤ o → o < oS a b g X s N → (mK a b c g X r N k).co (stS a b g X N s + o) = 0
  | 0, _, _, _, _, _, _ => rfl
  | k + 1, hk, s, o, s0, o0, o1 => by
    show (mI a b c g X r N (mK a b c g X r N k) k).co _ = 0
    have e : oS a b g X s (k + 1) = oS a b g X s k + (if g k = s then sI a b X k else 0) := rfl
    have sk := sI_nn (X := X) (hb k (by omega))
    have ih := mZ (c := c) (r := r) hb k (by omega) s o s0 (by rw [e] at o0; split at o0 <;> omega) o1
    by_cases n0 : g k < 0
    · rw [mI_d (Or.inl n0)]; exact ih
    rw [mI_co (hb k (by omega)) ?_]
    · exact ih
    have fit := oS_fit (a := a) (b := b) (g := g) (X := X) (N := N) (i := k) hb (by omega) (by omega)
    have of : ofS a b g X k = oS a b g X (g k) k := by unfold ofS; rw [show ((k : Int)).toNat = k by omega]
    by_cases es : g k = s
    · rw [if_pos es] at e
      rw [of, es]
      omega
    · have on := oS_nn (g := g) (X := X) (s := s) k (fun j hj => hb j (by omega))
      rw [if_neg es] at e
      by_cases lt : g k < s
      · have := st_le (g := g) (X := X) hb (show 0 ≤ g k by omega) lt
        omega
      · have := st_le (g := g) (X := X) hb s0 (show s < g k by omega)
        omega
/-! X: pieces and items put the same -/
theorem PX.nb {a b c : Int → Int} {N : Nat} {σ : ZS} (h : PX a b c N σ) {k : Nat} (hk : k ≤ N) : ¬ (yF a b c k).bad := by
  obtain ⟨ht, hb, -⟩ := h
  have nbk : ∀ m : Nat, m ≤ N → ¬ (yF a b c (N - m)).bad := by
    intro m
    induction m with
    | zero => intro _; exact hb
    | succ m ih =>
      intro hm
      have h1 := ih (by omega)
      rw [show N - m = (N - (m + 1)) + 1 by omega] at h1
      exact (yI_bad (ht _ (by omega)).1 (ht _ (by omega)).2 (show ¬ (yI _ _ _ _).bad from h1)).1
  have := nbk (N - k) (by omega)
  rw [show N - (N - k) = k by omega] at this
  exact this
theorem PX.q {a b c : Int → Int} {N : Nat} {σ : ZS} (h : PX a b c N σ) {k : Nat} (hk : k ≤ N) {q : Int} (q0 : 0 ≤ q) (q1 : q < (yF a b c k).np) : q < zI σ 0 31 ∧ zA σ 0 24 q = (yF a b c k).pk q ∧ zA σ 0 25 q = (yF a b c k).pa q ∧ zA σ 0 26 q = (yF a b c k).pb q ∧ zA σ 0 28 q = (yF a b c k).ps q := by
  obtain ⟨ht, hb, e31, hp⟩ := h
  have pre := yF_pre (a := a) (b := b) (c := c) (m := k) N hk ht
  have p1 := pre.1
  obtain ⟨x1, x2, x3, x4⟩ := hp q q0 (by omega)
  obtain ⟨y1, y2, y3, y4⟩ := pre.2 q q1
  exact ⟨by omega, x1.trans y1, x2.trans y2, x3.trans y3, x4.trans y4⟩
theorem PI_n {a b c : Int → Int} (k : Nat) : PI a b c k = (yF a b c k).np := by unfold PI; rw [show ((k : Int)).toNat = k by omega]
theorem gI_n {a b c : Int → Int} (k : Nat) : gI a b c k = (yF a b c (k + 1)).cur := by unfold gI; rw [show ((k : Int) + 1).toNat = k + 1 by omega]
/-- where a label lies, in the reference -/
theorem PX.lab {a b c X : Int → Int} {N : Nat} {γ : ZS} (px : PX a b c N γ) (lx : Lx γ γ (zI γ 0 31).toNat) (hx : ∀ j : Nat, j < N → a j = 9 → (xR a b c γ j = 0 ↔ X j = 0)) {n : Int} (h : 0 ≤ lI a c n N) : zA γ 0 16 n = loS a b c (gI a b c) X N n := by
  have lb : 0 ≤ lI a c n N ∧ lI a c n N < N ∧ a (lI a c n N) = 1 ∧ c (lI a c n N) = n := by
    rcases lI_bd (a := a) (c := c) (n := n) N with q | q
    · omega
    · exact q
  obtain ⟨l1, l2, l3, l4⟩ := px.fw (lI a c n N) lb.1 lb.2.1 (Or.inl lb.2.2.1)
  have el := px.lP n
  rw [if_neg (by omega)] at el
  have x16 := lx.2.2 n (by rw [el]; exact l1.1)
  rw [el, l4] at x16
  have w1 := px.oP (gI a b c (lI a c n N)) (lI a c n N).toNat (by omega)
  rw [show (((lI a c n N).toNat : Nat) : Int) = lI a c n N by omega] at w1
  rw [x16, w1]
  exact oS_cg _ (fun j hj t => hx j (by omega) t)
theorem mFW {d : MD} {k s p n i v : Int} : mW (mF d k s p n) i v = mF (mW d i v) k s p n := rfl
theorem mI_n {a b c g X r : Int → Int} {N : Nat} {d : MD} {i : Int} (h : a i ≤ 3 ∨ a i = 5) : mI a b c g X r N d i = d := by
  unfold mI
  by_cases q : g i < 0
  · rw [if_pos q]
  · rw [if_neg q, if_neg (by omega), if_neg (by omega), if_neg (by omega), if_neg (by omega), if_neg (by omega), if_neg (by omega), if_neg (by omega), if_neg (by omega)]
theorem qm {a b c r X : Int → Int} {N : Nat} {γ : ZS} (px : PX a b c N γ) (lx : Lx γ γ (zI γ 0 31).toNat) (hx : ∀ j : Nat, j < N → a j = 9 → (xR a b c γ j = 0 ↔ X j = 0)) (h13 : ∀ j : Int, 0 ≤ j → j < N → 7 ≤ a j → zA γ 0 13 (c j) = r (c j)) (h36 : ∀ s : Int, 0 ≤ s → s < zI γ 0 34 → zA γ 0 36 s = oS a b (gI a b c) X s N) (hsg : ∀ p : Int, 0 ≤ p → p < zI γ 0 31 → 0 ≤ zA γ 0 28 p ∧ zA γ 0 28 p < zI γ 0 34) (hlab : ∀ j : Int, 0 ≤ j → j < N → 7 ≤ a j → r (c j) = 2 → 0 ≤ lI a c (c j) N) (hj : HJx a b c (gI a b c) r N) (hc : ∀ j : Int, 0 ≤ j → j < N → a j = 11 → r (c j) = 3 ∨ (0 ≤ lI a c (c j) N ∧ gI a b c (lI a c (c j) N) = gI a b c j ∧ 0 ≤ gI a b c j)) (hsh : ∀ j : Int, 0 ≤ j → j < N → a j = 9 → X j = 0 → r (c j) ≠ 3) (h12 : ∀ j : Int, 0 ≤ j → j < N → a j = 12 → b j = 0) : ∀ k : Nat, k ≤ N → qK γ (PI a b c k).toNat = mK a b c (gI a b c) X r N k := by
  intro k
  induction k with
  | zero => intro _; rfl
  | succ k ih =>
    intro hk
    have ihk := ih (by omega)
    have n0 : 0 ≤ PI a b c k := by rw [PI_n]; exact yF_np k (fun j hj' => px.1 j (by omega))
    have nn : (yF a b c k).np = PI a b c k := (PI_n k).symm
    have yk : yF a b c (k + 1) = yI (yF a b c k) (a k) (b k) (c k) := rfl
    show qK γ (PI a b c ((k + 1 : Nat) : Int)).toNat = mI a b c (gI a b c) X r N (mK a b c (gI a b c) X r N k) k
    generalize hd : mK a b c (gI a b c) X r N k = d at ihk ⊢
    -- nothing is put
    have none : (yF a b c (k + 1)).np = (yF a b c k).np → (a k ≤ 3 ∨ a k = 5) → qK γ (PI a b c ((k + 1 : Nat) : Int)).toNat = mI a b c (gI a b c) X r N d k := by
      intro e t
      rw [mI_n t, PI_n, e, nn]; exact ihk
    have fit := oS_fit (a := a) (b := b) (g := gI a b c) (X := X) (N := N) (i := k) hj.2.2 (by omega) (by omega)
    have zer : ∀ o : Int, 0 ≤ gI a b c k → ofS a b (gI a b c) X k ≤ o → o < ofS a b (gI a b c) X k + sI a b X k → d.co (stS a b (gI a b c) X N (gI a b c k) + o) = 0 := by
      intro o g0 o0 o1
      rw [← hd]
      refine mZ hj.2.2 k (by omega) _ o g0 ?_ (by omega)
      have : ofS a b (gI a b c) X k = oS a b (gI a b c) X (gI a b c k) k := by unfold ofS; rw [show ((k : Int)).toNat = k by omega]
      omega
    have off : ∀ p : Int, 0 ≤ p → p < zI γ 0 31 → zA γ 0 28 p = gI a b c k → 0 ≤ gI a b c k ∧ ∀ o : Int, qO γ p o = stS a b (gI a b c) X N (gI a b c k) + o := by
      intro p p0 p1 e
      have s := hsg p p0 p1
      rw [e] at s
      refine ⟨s.1, fun o => ?_⟩
      unfold qO stS
      rw [e, psum_ext _ (fun j j0 j1 => h36 j j0 (by omega))]
    have at0 : PI a b c k < zI γ 0 31 → zA γ 0 28 (PI a b c k) = gI a b c k → zA γ 0 29 (PI a b c k) = ofS a b (gI a b c) X k := by
      intro p1 e
      have x := lx.2.1 (PI a b c k) n0 (by omega)
      rw [e, px.oP (gI a b c k) k (by omega), oS_cg k (fun j hj' t => hx j (by omega) t)] at x
      rw [x]; unfold ofS; rw [show ((k : Int)).toNat = k by omega]
    -- one piece
    have one : ∀ (e : YD) (kk aa bb : Int), yF a b c (k + 1) = yP e kk aa bb → e.np = (yF a b c k).np → PI a b c ((k + 1 : Nat) : Int) = PI a b c k + 1 ∧ PI a b c k < zI γ 0 31 ∧ zA γ 0 24 (PI a b c k) = kk ∧ zA γ 0 25 (PI a b c k) = aa ∧ zA γ 0 26 (PI a b c k) = bb ∧ zA γ 0 28 (PI a b c k) = gI a b c k := by
      intro e kk aa bb he en
      have np1 : (yF a b c (k + 1)).np = PI a b c k + 1 := by rw [he, ← nn, ← en]; rfl
      obtain ⟨x0, x1, x2, x3, x4⟩ := px.q (k := k + 1) hk n0 (by omega)
      have pe : PI a b c k = e.np := by rw [en, nn]
      refine ⟨by rw [PI_n]; exact np1, x0, ?_, ?_, ?_, ?_⟩
      · rw [x1, he, pe]; exact pu_eq
      · rw [x2, he, pe]; exact pu_eq
      · rw [x3, he, pe]; exact pu_eq
      · rw [x4, gI_n, he, pe]; exact pu_eq
    have step : PI a b c ((k + 1 : Nat) : Int) = PI a b c k + 1 → qI γ d (PI a b c k) = mI a b c (gI a b c) X r N d k → qK γ (PI a b c ((k + 1 : Nat) : Int)).toNat = mI a b c (gI a b c) X r N d k := by
      intro e h
      rw [e, qK_s n0, ihk]; exact h
    have dist : PI a b c k < zI γ 0 31 → zA γ 0 25 (PI a b c k) = c k → zA γ 0 28 (PI a b c k) = gI a b c k → szp γ (PI a b c k) = sI a b X k → (0 ≤ lI a c (c k) N ∧ gI a b c (lI a c (c k) N) = gI a b c k) → qD γ (PI a b c k) = dS a b c (gI a b c) X N k := by
      intro p1 e25 e28 es hl
      unfold qD dS
      rw [e25, px.lab lx hx hl.1, at0 p1 e28, es]
      unfold loS ofS
      rw [hl.2]
    have kN : ((k : Nat) : Int) < N := by omega
    have k0 : (0 : Int) ≤ ((k : Nat) : Int) := by omega
    have hcase : a k = 0 ∨ a k = 1 ∨ a k = 2 ∨ a k = 3 ∨ a k = 4 ∨ a k = 5 ∨ a k = 6 ∨ a k = 7 ∨ a k = 8 ∨ a k = 9 ∨ a k = 10 ∨ a k = 11 ∨ a k = 12 := by
      have := px.1 k (by omega)
      omega
    rcases hcase with t | t | t | t | t | t | t | t | t | t | t | t | t
    · refine none ?_ (by omega)
      rw [yk, t]
      show (ySeg (yF a b c k) (c k) (b k)).2.2.2.2.2.2.2.2 = _
      rw [ySeg_p]; rfl
    · have nb := px.nb (k := k + 1) hk
      rw [yk, t] at nb
      have yl : yF a b c (k + 1) = yLab (yF a b c k) (c k) := by rw [yk, t]; rfl
      have nb' : ¬ (yLab (yF a b c k) (c k)).bad := nb
      rw [yLab_eq] at nb' yl
      by_cases s0 : (yF a b c k).so (c k) = 0
      · rw [if_pos s0] at yl
        obtain ⟨e1, p1, e24, e25, e26, e28⟩ := one _ _ _ _ yl rfl
        refine step e1 ?_
        rw [mI_n (by omega)]
        unfold qI
        rw [e24, if_neg (by decide), if_neg (by decide), if_neg (by decide), if_neg (by decide), if_neg (by decide), if_neg (by decide), if_neg (by decide)]
      · rw [if_neg s0] at nb'
        exact absurd trivial nb'
    · refine none ?_ (by omega)
      rw [yk, t]; rfl
    · refine none ?_ (by omega)
      rw [yk, t]
      show (yExt (yF a b c k) (c k)).2.2.2.2.2.2.2.2 = _
      rw [yExt_p]; rfl
    · obtain ⟨e1, p1, e24, e25, e26, e28⟩ := one (yF a b c k) 0 (b k) 0 (by rw [yk, t]; rfl) rfl
      obtain ⟨g0, eo⟩ := off _ n0 p1 e28
      refine step e1 ?_
      unfold qI mI
      rw [e24, if_pos rfl, if_neg (by omega), if_pos t, eo, at0 p1 e28, e25]
    · obtain ⟨e1, p1, e24, e25, e26, e28⟩ := one (yF a b c k) 8 (b k) 0 (by rw [yk, t]; rfl) rfl
      refine step e1 ?_
      rw [mI_n (Or.inr t)]
      unfold qI
      rw [e24, if_neg (by decide), if_neg (by decide), if_neg (by decide), if_neg (by decide), if_neg (by decide), if_neg (by decide), if_neg (by decide)]
    · obtain ⟨e1, p1, e24, e25, e26, e28⟩ := one (yF a b c k) 1 (b k) 0 (by rw [yk, t]; rfl) rfl
      obtain ⟨g0, eo⟩ := off _ n0 p1 e28
      refine step e1 ?_
      unfold qI mI
      rw [e24, if_neg (by decide), if_pos rfl, if_neg (by omega), if_neg (by omega), if_pos t, eo, at0 p1 e28, e25]
    · obtain ⟨e1, p1, e24, e25, e26, e28⟩ := one (yU (yF a b c k) 1 (c k)) 2 (c k) (b k) (by rw [yk, t]; rfl) rfl
      obtain ⟨g0, eo⟩ := off _ n0 p1 e28
      refine step e1 ?_
      have hr := h13 k k0 kN (by omega)
      have hM : mI a b c (gI a b c) X r N d k = mOf a b c (gI a b c) X r N d k (ofS a b (gI a b c) X k) (b k) := by
        unfold mI
        rw [if_neg (by omega), if_neg (by omega), if_neg (by omega), if_pos t]
      rw [hM]
      unfold qI mOf
      rw [e24, if_neg (by decide), if_neg (by decide), if_pos rfl, eo, at0 p1 e28, e25, e26, e28, hr, mFW]
      by_cases r2 : r (c k) = 2
      · rw [if_pos r2, if_pos r2, px.lab lx hx (hlab k k0 kN (by omega) r2)]
      · rw [if_neg r2, if_neg r2]
    · obtain ⟨e1, p1, e24, e25, e26, e28⟩ := one (yU (yF a b c k) 1 (c k)) 3 (c k) 0 (by rw [yk, t]; rfl) rfl
      obtain ⟨g0, eo⟩ := off _ n0 p1 e28
      refine step e1 ?_
      have s2 : sI a b X k = 2 := by unfold sI; rw [if_neg (by omega), if_neg (by omega), if_neg (by omega), if_pos (by omega)]
      unfold qI mI
      rw [e24, if_neg (by decide), if_neg (by decide), if_neg (by decide), if_pos rfl, if_neg (by omega), if_neg (by omega), if_neg (by omega), if_neg (by omega), if_pos t, eo, at0 p1 e28, e25, e28, mFW, mW_0]
      · exact zer _ g0 (by omega) (by omega)
      · rw [Int.add_assoc]; exact zer _ g0 (by omega) (by omega)
    · obtain ⟨e1, p1, e24, e25, e26, e28⟩ := one (yU (yF a b c k) 3 (c k)) 4 (c k) 0 (by rw [yk, t]; rfl) rfl
      obtain ⟨g0, eo⟩ := off _ n0 p1 e28
      refine step e1 ?_
      have hr := h13 k k0 kN (by omega)
      have ex : zA γ 0 30 (PI a b c k) = 0 ↔ X k = 0 := hx k (by omega) t
      have hM : mI a b c (gI a b c) X r N d k = if X k = 0 then mB (mB d (stS a b (gI a b c) X N (gI a b c k) + ofS a b (gI a b c) X k) 235) (stS a b (gI a b c) X N (gI a b c k) + (ofS a b (gI a b c) X k + 1)) (dS a b c (gI a b c) X N k) else mNe a b c (gI a b c) X r N (mB d (stS a b (gI a b c) X N (gI a b c k) + ofS a b (gI a b c) X k) 233) k := by
        unfold mI
        rw [if_neg (by omega), if_neg (by omega), if_neg (by omega), if_neg (by omega), if_neg (by omega), if_pos t]
      rw [hM]
      unfold qI
      rw [e24, if_neg (by decide), if_neg (by decide), if_neg (by decide), if_neg (by decide), if_pos rfl, eo, eo, at0 p1 e28]
      by_cases x0 : X k = 0
      · rw [if_pos (ex.mpr x0), if_pos x0]
        have s2 : sI a b X k = 2 := by unfold sI; rw [if_neg (by omega), if_neg (by omega), if_pos t, if_pos x0]
        have hl := (hj.1 k k0 kN t).resolve_left (hsh k k0 kN t x0)
        rw [dist p1 e25 e28 (by rw [s2]; unfold szp szf; rw [e24, if_neg (by decide), if_pos rfl, if_pos (ex.mpr x0)]) ⟨hl.1, hl.2.1⟩]
      · have nx : ¬ zA γ 0 30 (PI a b c k) = 0 := fun q => x0 (ex.mp q)
        rw [if_neg nx, if_neg x0]
        have s3 : sI a b X k = 3 := by unfold sI; rw [if_neg (by omega), if_neg (by omega), if_pos t, if_neg x0]
        unfold qNe mNe
        rw [e25, hr, eo, at0 p1 e28, e28]
        by_cases r3 : r (c k) = 3
        · rw [if_pos r3, if_pos r3, mFW, mW_0]
          · exact (mB_o (by omega)).trans (zer _ g0 (by omega) (by omega))
          · rw [Int.add_assoc]; exact (mB_o (by omega)).trans (zer _ g0 (by omega) (by omega))
        · rw [if_neg r3, if_neg r3]
          have hl := (hj.1 k k0 kN t).resolve_left r3
          rw [dist p1 e25 e28 (by rw [s3]; unfold szp szf; rw [e24, if_neg (by decide), if_pos rfl, if_neg nx]) ⟨hl.1, hl.2.1⟩]
    · obtain ⟨e1, p1, e24, e25, e26, e28⟩ := one (yU (yF a b c k) 2 (c k)) 5 (c k) (b k) (by rw [yk, t]; rfl) rfl
      obtain ⟨g0, eo⟩ := off _ n0 p1 e28
      refine step e1 ?_
      have s2 : sI a b X k = 2 := by unfold sI; rw [if_neg (by omega), if_neg (by omega), if_neg (by omega), if_pos (by omega)]
      have hl := hj.2.1 k k0 kN t
      unfold qI mI
      rw [e24, if_neg (by decide), if_neg (by decide), if_neg (by decide), if_neg (by decide), if_neg (by decide), if_pos rfl, if_neg (by omega), if_neg (by omega), if_neg (by omega), if_neg (by omega), if_neg (by omega), if_neg (by omega), if_pos t, eo, eo, at0 p1 e28, e26, dist p1 e25 e28 (by rw [s2]; unfold szp szf; rw [e24]; rfl) ⟨hl.1, hl.2.1⟩]
    · obtain ⟨e1, p1, e24, e25, e26, e28⟩ := one (yU (yF a b c k) 3 (c k)) 6 (c k) 0 (by rw [yk, t]; rfl) rfl
      obtain ⟨g0, eo⟩ := off _ n0 p1 e28
      refine step e1 ?_
      have hr := h13 k k0 kN (by omega)
      have s3 : sI a b X k = 3 := by unfold sI; rw [if_neg (by omega), if_neg (by omega), if_neg (by omega), if_neg (by omega), if_pos t]
      unfold qI mI
      rw [e24, if_neg (by decide), if_neg (by decide), if_neg (by decide), if_neg (by decide), if_neg (by decide), if_neg (by decide), if_pos rfl, if_neg (by omega), if_neg (by omega), if_neg (by omega), if_neg (by omega), if_neg (by omega), if_neg (by omega), if_neg (by omega), if_pos t, eo, at0 p1 e28]
      unfold qNe mNe
      rw [e25, hr, eo, at0 p1 e28, e28]
      by_cases r3 : r (c k) = 3
      · rw [if_pos r3, if_pos r3, mFW, mW_0]
        · exact (mB_o (by omega)).trans (zer _ g0 (by omega) (by omega))
        · rw [Int.add_assoc]; exact (mB_o (by omega)).trans (zer _ g0 (by omega) (by omega))
      · rw [if_neg r3, if_neg r3]
        have hl := (hc k k0 kN t).resolve_left r3
        rw [dist p1 e25 e28 (by rw [s3]; unfold szp szf; rw [e24]; rfl) ⟨hl.1, hl.2.1⟩]
    · -- a far call: three pieces
      have yy : yF a b c (k + 1) = yP (yP (yP (yU (yF a b c k) 4 (c k)) 0 154 0) 2 (c k) 0) 3 (c k) 0 := by rw [yk, t]; rfl
      have np3 : (yF a b c (k + 1)).np = PI a b c k + 1 + 1 + 1 := by rw [yy, ← nn]; rfl
      have hr := h13 k k0 kN (by omega)
      have s5 : sI a b X k = 5 := by unfold sI; rw [if_neg (by omega), if_neg (by omega), if_neg (by omega), if_neg (by omega), if_neg (by omega), if_pos t]
      obtain ⟨x0, x1, x2, x3, x4⟩ := px.q (k := k + 1) hk n0 (by omega)
      obtain ⟨y0, y1, y2, y3, y4⟩ := px.q (k := k + 1) (q := PI a b c k + 1) hk (by omega) (by omega)
      obtain ⟨z0, z1, z2, z3, z4⟩ := px.q (k := k + 1) (q := PI a b c k + 1 + 1) hk (by omega) (by omega)
      have eg : gI a b c k = (yF a b c k).cur := by rw [gI_n, yy]; rfl
      rw [yy] at x1 x2 x3 x4 y1 y2 y3 y4 z1 z2 z3 z4
      have P0 : ∀ (h : Int → Int) (u v w : Int), zu (zu (zu h (yF a b c k).np u) ((yF a b c k).np + 1) v) ((yF a b c k).np + 1 + 1) w (PI a b c k) = u := fun h u v w => by rw [← nn, pu_ne (by omega), pu_ne (by omega), pu_eq]
      have P1 : ∀ (h : Int → Int) (u v w : Int), zu (zu (zu h (yF a b c k).np u) ((yF a b c k).np + 1) v) ((yF a b c k).np + 1 + 1) w (PI a b c k + 1) = v := fun h u v w => by rw [← nn, pu_ne (by omega), pu_eq]
      have P2 : ∀ (h : Int → Int) (u v w : Int), zu (zu (zu h (yF a b c k).np u) ((yF a b c k).np + 1) v) ((yF a b c k).np + 1 + 1) w (PI a b c k + 1 + 1) = w := fun h u v w => by rw [← nn, pu_eq]
      have x1' := x1.trans (P0 (yF a b c k).pk 0 2 3); have x2' := x2.trans (P0 (yF a b c k).pa 154 (c k) (c k)); have x4' := x4.trans (P0 (yF a b c k).ps (yF a b c k).cur (yF a b c k).cur (yF a b c k).cur)
      have y1' := y1.trans (P1 (yF a b c k).pk 0 2 3); have y2' := y2.trans (P1 (yF a b c k).pa 154 (c k) (c k)); have y3' := y3.trans (P1 (yF a b c k).pb 0 0 0); have y4' := y4.trans (P1 (yF a b c k).ps (yF a b c k).cur (yF a b c k).cur (yF a b c k).cur)
      have z1' := z1.trans (P2 (yF a b c k).pk 0 2 3); have z2' := z2.trans (P2 (yF a b c k).pa 154 (c k) (c k)); have z4' := z4.trans (P2 (yF a b c k).ps (yF a b c k).cur (yF a b c k).cur (yF a b c k).cur)
      rw [← eg] at x4' y4' z4'
      obtain ⟨g0, eo⟩ := off _ n0 x0 x4'
      obtain ⟨-, eo1⟩ := off (PI a b c k + 1) (by omega) y0 y4'
      obtain ⟨-, eo2⟩ := off (PI a b c k + 1 + 1) (by omega) z0 z4'
      have at1 : ∀ q : Int, 0 ≤ q → oP (zA γ 0 24) (zA γ 0 25) (zA γ 0 28) (zA γ 0 30) (gI a b c k) (q + 1).toNat = oP (zA γ 0 24) (zA γ 0 25) (zA γ 0 28) (zA γ 0 30) (gI a b c k) q.toNat + (if zA γ 0 28 q = gI a b c k then szf (zA γ 0 24 q) (zA γ 0 25 q) (zA γ 0 30 q) else 0) := by
        intro q q0
        rw [show (q + 1).toNat = q.toNat + 1 by omega]
        show oP (zA γ 0 24) (zA γ 0 25) (zA γ 0 28) (zA γ 0 30) (gI a b c k) q.toNat + (if zA γ 0 28 (q.toNat : Int) = gI a b c k then szf (zA γ 0 24 (q.toNat : Int)) (zA γ 0 25 (q.toNat : Int)) (zA γ 0 30 (q.toNat : Int)) else 0) = _
        rw [show ((q.toNat : Nat) : Int) = q by omega]
      have a0 := lx.2.1 (PI a b c k) n0 (by omega)
      have a1 := lx.2.1 (PI a b c k + 1) (by omega) (by omega)
      have a2 := lx.2.1 (PI a b c k + 1 + 1) (by omega) (by omega)
      rw [x4'] at a0
      rw [y4', at1 _ n0, if_pos x4', x1', ← a0, at0 x0 x4'] at a1
      rw [z4', at1 _ (by omega), if_pos y4', y1', at1 _ n0, if_pos x4', x1', ← a0, at0 x0 x4'] at a2
      have w1 : zA γ 0 29 (PI a b c k + 1) = ofS a b (gI a b c) X k + 1 := a1
      have w2 : zA γ 0 29 (PI a b c k + 1 + 1) = ofS a b (gI a b c) X k + 3 := a2.trans (by show ofS a b (gI a b c) X k + 1 + 2 = _; omega)
      rw [PI_n, np3, qK_s (by omega), qK_s (by omega), qK_s n0, ihk]
      have q0 : qI γ d (PI a b c k) = mB d (stS a b (gI a b c) X N (gI a b c k) + ofS a b (gI a b c) X k) 154 := by
        unfold qI
        rw [x1', if_pos rfl, eo, at0 x0 x4', x2']
      have q1 : ∀ e : MD, qI γ e (PI a b c k + 1) = mF (mW e (stS a b (gI a b c) X N (gI a b c k) + (ofS a b (gI a b c) X k + 1)) (b k + (if r (c k) = 2 then loS a b c (gI a b c) X N (c k) else 0))) 0 (gI a b c k) (ofS a b (gI a b c) X k + 1) (c k) := by
        intro e
        unfold qI
        rw [y1', if_neg (by decide), if_neg (by decide), if_pos rfl, eo1, w1, y2', y3', y4', hr, h12 k k0 kN t, mFW]
        by_cases r2 : r (c k) = 2
        · rw [if_pos r2, if_pos r2, px.lab lx hx (hlab k k0 kN (by omega) r2)]
        · rw [if_neg r2, if_neg r2]
      have q2 : ∀ e : MD, qI γ e (PI a b c k + 1 + 1) = mF (mW e (stS a b (gI a b c) X N (gI a b c k) + (ofS a b (gI a b c) X k + 3)) 0) 1 (gI a b c k) (ofS a b (gI a b c) X k + 3) (c k) := by
        intro e
        unfold qI
        rw [z1', if_neg (by decide), if_neg (by decide), if_neg (by decide), if_pos rfl, eo2, w2, z2', z4', mFW]
      have hM : mI a b c (gI a b c) X r N d k = mF (mOf a b c (gI a b c) X r N (mB d (stS a b (gI a b c) X N (gI a b c k) + ofS a b (gI a b c) X k) 154) k (ofS a b (gI a b c) X k + 1) (b k)) 1 (gI a b c k) (ofS a b (gI a b c) X k + 3) (c k) := by
        unfold mI
        rw [if_neg (by omega), if_neg (by omega), if_neg (by omega), if_neg (by omega), if_neg (by omega), if_neg (by omega), if_neg (by omega), if_neg (by omega), if_pos t]
      rw [q0, q1, q2, hM]
      unfold mOf
      rw [mW_0]
      · show (mW (mB d _ _) _ _).co _ = 0
        exact (mW_o (by omega) (by omega)).trans ((mB_o (by omega)).trans (zer _ g0 (by omega) (by omega)))
      · show (mW (mB d _ _) _ _).co _ = 0
        rw [Int.add_assoc]
        exact (mW_o (by omega) (by omega)).trans ((mB_o (by omega)).trans (zer _ g0 (by omega) (by omega)))
