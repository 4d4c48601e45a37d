/-! X: near fixups whose name lies apart, exactly (the class) -/
/-- public q of module m has word w -/
def PPc (σ : ZS) (w m q : Int) : Prop := (0 ≤ m ∧ m < 3) ∧ zI σ m 0 ≠ 0 ∧ (0 ≤ q ∧ q < zI σ m 13) ∧ zA σ m 14 q = w
theorem x_publicPart {σ : ZS} {w : Int} {Q : Int → ZS → Prop} (h : M3 σ) (hw : 0 ≤ w ∧ w ≤ 4398046511103) (hp : PbC σ w 3) (hQ : ∀ m q : Int, PPc σ w m q → Q (m * 24 + zA σ m 15 q) σ) : wpX3_publicPart w σ Q := by
  unfold wpX3_publicPart wpX3_part
  refine x_publicModule h (by decide) hw (fun m q mb mt qb qw => ⟨by omega, fun _ => ⟨by omega, ?_⟩, fun z => absurd mb.1 z⟩) (fun no => absurd hp no)
  have mo := h m mb.1 (by omega)
  have h13 := mo.2.2.2.1
  exact c_publicNumber (by omega) mo hw (fun x x0 x1 xe _ => ⟨by omega, hQ m x ⟨mb, mt, ⟨x0, x1⟩, xe⟩⟩) (fun no => absurd qw (no q qb.1 qb.2))
/-- no near fixup's name lies apart (the class) -/
def APc (σ : ZS) : Prop := ∀ m k m' q : Int, (0 ≤ m ∧ m ≤ 2) → (0 ≤ k ∧ k < zI σ m 7) → zA σ m 8 k = 2 → PPc σ (zA σ m 12 k) m' q → zA σ 16 5 (m * 24 + zA σ m 9 k) = zA σ 16 5 (m' * 24 + zA σ m' 15 q)
theorem x_firstApart {σ : ZS} {Q : Int → ZS → Prop} (h : M3 σ) (hl : LKc σ) (hn : ∀ m k : Int, (0 ≤ m ∧ m ≤ 2) → (0 ≤ k ∧ k < zI σ m 7) → zA σ m 8 k = 2 → PbC σ (zA σ m 12 k) 3) (hu : ∀ w m q m' q' : Int, PPc σ w m q → PPc σ w m' q' → m * 24 + zA σ m 15 q = m' * 24 + zA σ m' 15 q') (h0 : APc σ → Q (-1) σ) (h1 : ∀ x : Int, (0 ≤ x ∧ x ≤ 2) → ¬ APc σ → Q x σ) : wpX3_firstApart σ Q := by
  unfold wpX3_firstApart wpX3_firstApart_2
  refine lfp1_ind (fun v _ => (3 - v).toNat) (fun v τ => τ = σ ∧ (0 ≤ v ∧ v ≤ 3) ∧ (∀ m k m' q : Int, (0 ≤ m ∧ m < v) → (0 ≤ k ∧ k < zI σ m 7) → zA σ m 8 k = 2 → PPc σ (zA σ m 12 k) m' q → zA σ 16 5 (m * 24 + zA σ m 9 k) = zA σ 16 5 (m' * 24 + zA σ m' 15 q))) (fun K v τ hI ih => ?_) ⟨rfl, by decide, fun m k m' q mb => absurd mb (by omega)⟩
  obtain ⟨e, hv, hno⟩ := hI
  rw [e]
  unfold wpbX3_firstApart_2 wpX3_firstApart_16
  refine ⟨by omega, fun _ => h0 (fun m k m' q mb => hno m k m' q (by omega)), fun q => ⟨by omega, ?_⟩⟩
  have hm := h v (by omega) (by omega)
  have h7 := hm.2.2.1
  refine lfp1_ind (fun u _ => (200 - u).toNat) (fun u τ => τ = σ ∧ (0 ≤ u ∧ u ≤ 200) ∧ (∀ k m' q : Int, (0 ≤ k ∧ k < u) → k < zI σ v 7 → zA σ v 8 k = 2 → PPc σ (zA σ v 12 k) m' q → zA σ 16 5 (v * 24 + zA σ v 9 k) = zA σ 16 5 (m' * 24 + zA σ m' 15 q))) (fun K' u τ' hI' ih' => ?_) ⟨rfl, by decide, fun k m' q kb => absurd kb (by omega)⟩
  obtain ⟨e', hu', hi⟩ := hI'
  rw [e']
  unfold wpbX3_firstApart_16 wpX3_firstApart_69 wpX3_part
  refine ⟨by omega, by omega, by omega, fun _ => ih _ _ ⟨rfl, by omega, fun m k m' q mb kb => ?_⟩ (by omega), fun q' => ?_⟩
  · by_cases ev : m = v
    · rw [ev] at kb ⊢; exact hi k m' q (by omega) kb.2
    · exact hno m k m' q (by omega) kb
  obtain ⟨p1, p2, p3, p4, p5⟩ := hm.2.2.2.2.2.2.1 u hu'.1 (by omega)
  have on : (∀ m' q : Int, zA σ v 8 u = 2 → PPc σ (zA σ v 12 u) m' q → zA σ 16 5 (v * 24 + zA σ v 9 u) = zA σ 16 5 (m' * 24 + zA σ m' 15 q)) → K' (u + 1) σ := by
    intro hh
    refine ih' _ _ ⟨rfl, by omega, fun k m' q kb kl => ?_⟩ (by omega)
    by_cases ev : k = u
    · rw [ev]; exact hh m' q
    · exact hi k m' q (by omega) kl
  refine ⟨by omega, by omega, fun n2 => on (fun _ _ y => absurd y n2), fun y2 => ⟨by omega, x_publicPart h p5 (hn v u (by omega) (by omega) y2) (fun m' x px => ?_)⟩⟩
  have mb := px.1
  have mo := h m' px.1.1 (by omega)
  have h15 := (mo.2.2.2.2.2.2.2 x px.2.2.1.1 px.2.2.1.2).2.1
  have a1 := hl.2.2.2.2.1 (v * 24 + zA σ v 9 u) (by omega) (by omega)
  have a2 := hl.2.2.2.2.1 (m' * 24 + zA σ m' 15 x) (by omega) (by omega)
  refine ⟨by omega, by omega, by omega, fun eq => on (fun m2 q2 _ p2' => ?_), fun ne => h1 _ (by omega) (fun ap => ne (ap v u m' x (by omega) (by omega) y2 px))⟩
  rw [eq, hu _ m' x m2 q2 px p2']
/-! the same in the reference -/
def PPr (ρ : ZS) (w m k : Int) : Prop := (0 ≤ m ∧ m ≤ 2) ∧ zA ρ 0 43 m ≠ 0 ∧ (0 ≤ k ∧ k < zA ρ 0 56 m) ∧ zA ρ 0 57 (80 * m + k) = w
def APr (ρ : ZS) : Prop := ∀ m k m' k' : Int, (0 ≤ m ∧ m ≤ 2) → zA ρ 0 43 m ≠ 0 → (0 ≤ k ∧ k < zA ρ 0 50 m) → zA ρ 0 51 (200 * m + k) = 2 → PPr ρ (zA ρ 0 55 (200 * m + k)) m' k' → zA ρ 0 71 (24 * m + zA ρ 0 52 (200 * m + k)) = zA ρ 0 71 (24 * m' + zA ρ 0 58 (80 * m' + k'))
theorem y_aboutSegment {σ : ZS} {m k : Int} {Q : Int → ZS → Prop} (hL : LK σ) (hm : 0 ≤ m ∧ m ≤ 2) (h43 : zA σ 0 43 m ≠ 0) (hk : 0 ≤ k ∧ k < zA σ 0 50 m) (hneg : zA σ 0 54 (200 * m + k) < 0) (hQ : ∀ m' k' : Int, PPr σ (zA σ 0 55 (200 * m + k)) m' k' → (0 ≤ zA σ 0 71 (24 * m' + zA σ 0 58 (80 * m' + k')) ∧ zA σ 0 71 (24 * m' + zA σ 0 58 (80 * m' + k')) < zI σ 0 73) → Q (zA σ 0 71 (24 * m' + zA σ 0 58 (80 * m' + k'))) σ) : wpX11_aboutSegment m (200 * m + k) σ Q := by
  obtain ⟨hA, hC, hN, -⟩ := hL
  have hMI := hA.2 m hm.1 hm.2
  have h50 := hMI.1.2.1
  have h44 := hMI.1.1
  have hfx := (hMI.2.2.1 k hk.1 hk.2).2.2.2.2
  have h55 := hA.1.2.1 (200 * m + k) (by omega) (by omega)
  unfold wpX11_aboutSegment
  refine ⟨by omega, by omega, fun l => ?_, fun nl => absurd hneg nl⟩
  refine s_publicOf hA h55 (fun q => absurd (hN m k hm.1 hm.2 h43 hk.1 hk.2 l) q) (fun m' k' hm' hk' h43' h57' => ?_)
  have hMI' := hA.2 m' hm'.1 hm'.2
  have h56' := hMI'.1.2.2
  have h44' := hMI'.1.1
  have hp := hMI'.2.2.2 k' hk'.1 hk'.2
  have e : (80 * m' + k') / 80 = m' := by omega
  have hc := (hC.2.1 m' _ hm'.1 hm'.2 hp.1.1 hp.1.2 h43').1
  rw [e]
  exact ⟨by omega, by omega, by omega, hQ m' k' ⟨hm', h43', hk', h57'⟩ hc⟩
theorem y_far {σ : ZS} {Q : Int → ZS → Prop} (hL : LK σ) (hn : ∀ m k : Int, (0 ≤ m ∧ m ≤ 2) → zA σ 0 43 m ≠ 0 → (0 ≤ k ∧ k < zA σ 0 50 m) → zA σ 0 51 (200 * m + k) = 2 → zA σ 0 54 (200 * m + k) < 0) (hu : ∀ w m k m' k' : Int, PPr σ w m k → PPr σ w m' k' → 24 * m + zA σ 0 58 (80 * m + k) = 24 * m' + zA σ 0 58 (80 * m' + k')) (h0 : APr σ → Q (-1) σ) (h1 : ∀ r : Int, (0 ≤ r ∧ r ≤ 2) → ¬ APr σ → Q r σ) : wpX11_far σ Q := by
  have hA := hL.1
  unfold wpX11_far wpX11_far_2
  refine lfp1_ind (fun v _ => (3 - v).toNat) (fun v τ => τ = σ ∧ (0 ≤ v ∧ v ≤ 3) ∧ (∀ m k m' k' : Int, (0 ≤ m ∧ m < v) → zA σ 0 43 m ≠ 0 → (0 ≤ k ∧ k < zA σ 0 50 m) → zA σ 0 51 (200 * m + k) = 2 → PPr σ (zA σ 0 55 (200 * m + k)) m' k' → zA σ 0 71 (24 * m + zA σ 0 52 (200 * m + k)) = zA σ 0 71 (24 * m' + zA σ 0 58 (80 * m' + k')))) ?_ ⟨rfl, by omega, fun m k m' k' mb => absurd mb (by omega)⟩
  intro P m τ ⟨he, hm, hno⟩ ih
  rw [he]
  show wpbX11_far_2 P m σ Q
  unfold wpbX11_far_2
  refine ⟨by omega, fun _ => h0 (fun m k m' k' mb => hno m k m' k' (by omega)), fun ne => ?_⟩
  have hMI := hA.2 m hm.1 (by omega)
  have h50 := hMI.1.2.1
  have h44 := hMI.1.1
  have h43 := hA.1.2.2.2.2 m (by omega) (by omega)
  unfold wpX11_far_9
  refine lfp1_ind (fun v _ => (200 - v).toNat) (fun v τ => τ = σ ∧ (0 ≤ v ∧ v ≤ zA σ 0 50 m) ∧ (∀ k m' k' : Int, zA σ 0 43 m ≠ 0 → (0 ≤ k ∧ k < v) → zA σ 0 51 (200 * m + k) = 2 → PPr σ (zA σ 0 55 (200 * m + k)) m' k' → zA σ 0 71 (24 * m + zA σ 0 52 (200 * m + k)) = zA σ 0 71 (24 * m' + zA σ 0 58 (80 * m' + k')))) ?_ ⟨rfl, by omega, fun k m' k' _ kb => absurd kb (by omega)⟩
  intro P9 k τ ⟨he9, hk, hnk⟩ ih9
  rw [he9]
  show wpbX11_far_9 P P9 m k σ Q
  have out : zA σ 0 43 m = 0 ∨ k = zA σ 0 50 m → P (m + 1) σ := by
    intro hq
    refine ih _ _ ⟨rfl, by omega, fun m2 k2 m' k' mb mt kb => ?_⟩ (by show (3 - (m + 1)).toNat < (3 - m).toNat; omega)
    by_cases em : m2 = m
    · rw [em] at mt kb ⊢
      rcases hq with q | q
      · exact absurd q mt
      · exact hnk k2 m' k' mt (by omega)
    · exact hno m2 k2 m' k' (by omega) mt kb
  unfold wpbX11_far_9 wpX11_far_79 wpX11_far_73
  refine ⟨by omega, by omega, by omega, fun _ => out (Or.inr (by omega)), fun ne9 => ⟨by omega, fun z => out (Or.inl z), fun nz => ?_⟩⟩
  have next : (∀ m' k' : Int, zA σ 0 51 (200 * m + k) = 2 → PPr σ (zA σ 0 55 (200 * m + k)) m' k' → zA σ 0 71 (24 * m + zA σ 0 52 (200 * m + k)) = zA σ 0 71 (24 * m' + zA σ 0 58 (80 * m' + k'))) → P9 (k + 1) σ := by
    intro hh
    refine ih9 _ _ ⟨rfl, by omega, fun k2 m' k' mt kb => ?_⟩ (by show (200 - (k + 1)).toNat < (200 - k).toNat; omega)
    by_cases e : k2 = k
    · rw [e]; exact hh m' k'
    · exact hnk k2 m' k' mt (by omega)
  have hfx := hMI.2.2.1 k hk.1 (by omega)
  have hc := (hL.2.1.2.1 m _ hm.1 (by omega) hfx.2.1.1 hfx.2.1.2 nz).1
  have h73 := hL.2.1.1
  refine ⟨by omega, by omega, fun n2 => next (fun _ _ y => absurd y n2), fun y2 => ?_⟩
  refine y_aboutSegment hL ⟨hm.1, by omega⟩ nz ⟨hk.1, by omega⟩ (hn m k (by omega) nz (by omega) y2) (fun m' k' pp xb => ⟨by omega, by omega, by omega, fun eq => next (fun m2 k2 _ p2 => ?_), fun ne' => h1 _ (by omega) (fun ap => ?_)⟩)
  · have e := hu _ m' k' m2 k2 pp p2
    rw [← e]
    first | exact eq | exact eq.symm
  · have := ap m k m' k' (by omega) nz (by omega) y2 pp
    first | exact ne' this | exact ne' this.symm
