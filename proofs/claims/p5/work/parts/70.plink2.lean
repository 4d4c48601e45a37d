/-! P: the reference links -/
def LK (σ : ZS) : Prop := MA σ ∧ CB σ ∧ NoMiss σ ∧ zA σ 0 67 0 ≤ 1200
theorem MA.up {σ τ : ZS} (h : MA σ) (a : ∀ j : Nat, j ∈ WA → zA τ 0 j = zA σ 0 j) : MA τ := ⟨h.1.up a, fun n x y => (h.2 n x y).up a⟩
theorem NoMiss.up {σ τ : ZS} (h : NoMiss σ) (a : ∀ j : Nat, j ∈ WA → zA τ 0 j = zA σ 0 j) : NoMiss τ := by
  unfold NoMiss Pub
  rw [a 43 (by decide), a 50 (by decide), a 54 (by decide), a 55 (by decide), a 56 (by decide), a 57 (by decide)]
  exact h
theorem LK.up {σ τ : ZS} (h : LK σ) (a : ∀ j : Nat, j ∉ [61, 63] → zA τ 0 j = zA σ 0 j) (i : zI τ 0 73 = zI σ 0 73) : LK τ := by
  have aw : ∀ j : Nat, j ∈ WA → zA τ 0 j = zA σ 0 j := fun j hj => a j (fun q => absurd hj ((show ∀ k ∈ [61, 63], k ∉ WA by decide) j q))
  refine ⟨h.1.up aw, ?_, h.2.2.1.up aw, by rw [a 67 (by decide)]; exact h.2.2.2⟩
  unfold CB
  rw [a 43 (by decide), a 44 (by decide), a 48 (by decide), a 67 (by decide), a 69 (by decide), a 70 (by decide), a 71 (by decide), a 72 (by decide), i]
  exact h.2.1
theorem s_aboutSegment {σ : ZS} {m k : Int} {Q : Int → ZS → Prop} (hL : LK σ) (hm : 0 ≤ m ∧ m ≤ 2) (h43 : zA σ 0 43 m ≠ 0) (hk : 0 ≤ k ∧ k < zA σ 0 50 m) (hQ : ∀ x : Int, 0 ≤ x → x < zI σ 0 73 → Q x σ) : wpX11_aboutSegment m (200 * m + k) σ Q := by
  obtain ⟨hA, hC, hN, -⟩ := hL
  have hMI := hA.2 m hm.1 hm.2
  have h50 := hMI.1.2.1
  have h44 := hMI.1.1
  have hfx := (hMI.2.2.1 k hk.1 hk.2).2.2.2.2
  have h55 := hA.1.2.1 (200 * m + k) (by omega) (by omega)
  unfold wpX11_aboutSegment
  refine ⟨by omega, by omega, fun l => ?_, fun nl => ⟨by omega, ?_⟩⟩
  · refine s_publicOf hA h55 (fun q => absurd (hN m k hm.1 hm.2 h43 hk.1 hk.2 l) q) (fun m' k' hm' hk' h43' _ => ?_)
    have hMI' := hA.2 m' hm'.1 hm'.2
    have h56' := hMI'.1.2.2
    have h44' := hMI'.1.1
    have hp := hMI'.2.2.2 k' hk'.1 hk'.2
    have e : (80 * m' + k') / 80 = m' := by omega
    have hc := (hC.2.1 m' _ hm'.1 hm'.2 hp.1.1 hp.1.2 h43').1
    rw [e]
    exact ⟨by omega, by omega, by omega, hQ _ hc.1 hc.2⟩
  · have hc := (hC.2.1 m _ hm.1 hm.2 (by omega) hfx.2 h43).1
    exact hQ _ hc.1 hc.2
theorem s_aboutOffset {σ : ZS} {m k : Int} {Q : Int → ZS → Prop} (hL : LK σ) (hm : 0 ≤ m ∧ m ≤ 2) (h43 : zA σ 0 43 m ≠ 0) (hk : 0 ≤ k ∧ k < zA σ 0 50 m) (hQ : ∀ x : Int, 0 ≤ x → x ≤ 100000 → Q x σ) : wpX11_aboutOffset m (200 * m + k) σ Q := by
  obtain ⟨hA, hC, hN, -⟩ := hL
  have hMI := hA.2 m hm.1 hm.2
  have h50 := hMI.1.2.1
  have h44 := hMI.1.1
  have hfx := (hMI.2.2.1 k hk.1 hk.2).2.2.2.2
  have h55 := hA.1.2.1 (200 * m + k) (by omega) (by omega)
  have off : ∀ m' s' : Int, 0 ≤ m' → m' ≤ 2 → 0 ≤ s' → s' < zA σ 0 44 m' → zA σ 0 43 m' ≠ 0 → 0 ≤ zA σ 0 72 (24 * m' + s') ∧ zA σ 0 72 (24 * m' + s') ≤ 30000 := by
    intro m' s' m0 m1 s0 s1 h
    have hc := hC.2.1 m' s' m0 m1 s0 s1 h
    have hd := hC.2.2.1 _ hc.1.1 hc.1.2
    have hs := (hA.2 m' m0 m1).2.1 s' s0 s1
    omega
  unfold wpX11_aboutOffset
  refine ⟨by omega, by omega, fun l => ?_, fun nl => ⟨by omega, ?_⟩⟩
  · refine s_publicOf hA h55 (fun q => absurd (hN m k hm.1 hm.2 h43 hk.1 hk.2 l) q) (fun m' k' hm' hk' h43' _ => ?_)
    have hMI' := hA.2 m' hm'.1 hm'.2
    have h56' := hMI'.1.2.2
    have h44' := hMI'.1.1
    have hp := hMI'.2.2.2 k' hk'.1 hk'.2
    have e : (80 * m' + k') / 80 = m' := by omega
    have hc := off m' _ hm'.1 hm'.2 hp.1.1 hp.1.2 h43'
    rw [e]
    exact ⟨by omega, by omega, by omega, hQ _ (by omega) (by omega)⟩
  · have hc := off m _ hm.1 hm.2 (by omega) hfx.2 h43
    exact hQ _ (by omega) (by omega)
theorem s_far {σ : ZS} {Q : Int → ZS → Prop} (hL : LK σ) (hQ : ∀ r : Int, (-1 ≤ r ∧ r ≤ 2) → Q r σ) : wpX11_far σ Q := by
  have hA := hL.1
  unfold wpX11_far wpX11_far_2
  refine lfp1_ind (fun v _ => (3 - v).toNat) (fun v τ => τ = σ ∧ (0 ≤ v ∧ v ≤ 3)) ?_ ⟨rfl, by omega⟩
  intro P m τ ⟨he, hm⟩ ih
  rw [he]
  show wpbX11_far_2 P m σ Q
  unfold wpbX11_far_2
  refine ⟨by omega, fun _ => hQ _ (by decide), fun ne => ?_⟩
  have hMI := hA.2 m hm.1 (by omega)
  have h50 := hMI.1.2.1
  have h44 := hMI.1.1
  have h43 := hA.1.2.2.2.2 m (by omega) (by omega)
  have out : P (m + 1) σ := ih _ _ ⟨rfl, by omega⟩ (by show (3 - (m + 1)).toNat < (3 - m).toNat; omega)
  unfold wpX11_far_9
  refine lfp1_ind (fun v _ => (200 - v).toNat) (fun v τ => τ = σ ∧ (0 ≤ v ∧ v ≤ zA σ 0 50 m)) ?_ ⟨rfl, by omega⟩
  intro P9 k τ ⟨he9, hk⟩ ih9
  rw [he9]
  show wpbX11_far_9 P P9 m k σ Q
  unfold wpbX11_far_9 wpX11_far_79 wpX11_far_73
  refine ⟨by omega, by omega, by omega, fun _ => out, fun ne9 => ⟨by omega, fun _ => out, fun nz => ?_⟩⟩
  have next : P9 (k + 1) σ := ih9 _ _ ⟨rfl, by omega⟩ (by show (200 - (k + 1)).toNat < (200 - k).toNat; omega)
  have hfx := hMI.2.2.1 k hk.1 (by omega)
  have hc := (hL.2.1.2.1 m _ hm.1 (by omega) hfx.2.1.1 hfx.2.1.2 nz).1
  have h73 := hL.2.1.1
  refine ⟨by omega, by omega, fun _ => next, fun _ => ?_⟩
  exact s_aboutSegment hL ⟨hm.1, by omega⟩ nz ⟨hk.1, by omega⟩ (fun x x0 x1 => ⟨by omega, by omega, by omega, fun _ => next, fun _ => hQ _ (by omega)⟩)
/-- the image's cells -/
def IM (σ : ZS) : Prop := (∀ i : Int, 0 ≤ i → i < 1200 → 0 ≤ zA σ 0 61 i ∧ zA σ 0 61 i ≤ 255) ∧ (∀ k : Int, 0 ≤ k → k < 600 → 0 ≤ zA σ 0 63 k ∧ zA σ 0 63 k ≤ 1199)
theorem IM.u61 {σ : ZS} {i v : Int} (h : IM σ) (hv : 0 ≤ v ∧ v ≤ 255) : IM (zsA σ 0 61 i v) := ⟨rng_zu h.1 hv, h.2⟩
theorem IM.u63 {σ : ZS} {i v : Int} (h : IM σ) (hv : 0 ≤ v ∧ v ≤ 1199) : IM (zsA σ 0 63 i v) := ⟨h.1, rng_zu h.2 hv⟩
theorem s_solve {σ : ZS} {m k : Int} {Q : ZS → Prop} (hL : LK σ) (hI : IM σ) (hm : 0 ≤ m ∧ m ≤ 2) (h43 : zA σ 0 43 m ≠ 0) (hk : 0 ≤ k ∧ k < zA σ 0 50 m) (h64 : 0 ≤ zI σ 0 64 ∧ zI σ 0 64 < 600) (hQ : ∀ τ : ZS, fr [64] [61, 63] σ τ → IM τ → (0 ≤ zI τ 0 64 ∧ zI τ 0 64 ≤ zI σ 0 64 + 1) → Q τ) : wpX11_solve m (200 * m + k) σ Q := by
  have hA := hL.1
  have hC := hL.2.1
  have h1200 := hL.2.2.2
  have hMI := hA.2 m hm.1 hm.2
  have h50 := hMI.1.2.1
  have h44 := hMI.1.1
  have hfx := hMI.2.2.1 k hk.1 hk.2
  have hc := hC.2.1 m _ hm.1 hm.2 hfx.2.1.1 hfx.2.1.2 h43
  have hd := hC.2.2.1 _ hc.1.1 hc.1.2
  have h73 := hC.1
  obtain ⟨v4, e4⟩ : ∃ v4, v4 = zA σ 0 72 (24 * m + zA σ 0 52 (200 * m + k)) + zA σ 0 53 (200 * m + k) := ⟨_, rfl⟩
  obtain ⟨v5, e5⟩ : ∃ v5, v5 = zA σ 0 70 (zA σ 0 71 (24 * m + zA σ 0 52 (200 * m + k))) + v4 := ⟨_, rfl⟩
  have h4 : 0 ≤ v4 ∧ v4 ≤ 30000 := by omega
  have h5 : 0 ≤ v5 ∧ v5 + 1 < 1200 := by omega
  have f155 : ∀ (v6 : Int) (τ : ZS), fr [64] [61, 63] σ τ → IM τ → (0 ≤ zI τ 0 64 ∧ zI τ 0 64 ≤ zI σ 0 64 + 1) → (-1000000 ≤ v6 ∧ v6 ≤ 1000000) → wpX11_solve_155 v5 v6 τ Q := by
    intro v6 τ hf hIt h6 hv
    unfold wpX11_solve_155
    exact ⟨by omega, by omega, by omega, hQ _ ((hf.ta (by decide)).ta (by decide)) ((hIt.u61 (by omega)).u61 (by omega)) h6⟩
  have f132 : ∀ (v6 : Int) (τ : ZS), fr [64] [61, 63] σ τ → IM τ → (0 ≤ zI τ 0 64 ∧ zI τ 0 64 ≤ zI σ 0 64 + 1) → (-1000000 ≤ v6 ∧ v6 ≤ 1000000) → wpX11_solve_132 m (200 * m + k) v4 v5 v6 τ Q := by
    intro v6 τ hf hIt h6 hv
    unfold wpX11_solve_132
    rw [hf.2 51 (by decide)]
    refine ⟨by omega, by omega, fun _ => f155 v6 τ hf hIt h6 hv, fun _ => ?_⟩
    exact s_aboutOffset (hL.up hf.2 (hf.1 73 (by decide))) hm (by rw [hf.2 43 (by decide)]; exact h43) (by rw [hf.2 50 (by decide)]; exact hk) (fun x x0 x1 => f155 _ τ hf hIt h6 (by omega))
  have f85 : ∀ v6 : Int, (-1000000 ≤ v6 ∧ v6 ≤ 1000000) → wpX11_solve_85 m (200 * m + k) v4 v5 v6 σ Q := by
    intro v6 hv
    unfold wpX11_solve_85
    refine ⟨by omega, by omega, fun _ => f132 v6 σ fr.rf hI (by omega) hv, fun _ => ?_⟩
    refine s_aboutSegment hL hm h43 hk (fun x x0 x1 => ?_)
    have hx := hC.2.2.1 x x0 x1
    refine ⟨by omega, by omega, h64, f132 _ _ ((fr.rf.ta (by decide)).ti (by decide)) (hI.u63 (by omega)) ?_ (by omega)⟩
    show 0 ≤ zI σ 0 64 + 1 ∧ zI σ 0 64 + 1 ≤ zI σ 0 64 + 1
    omega
  unfold wpX11_solve
  rw [← e4, ← e5]
  have b0 := hI.1 v5 h5.1 (by omega)
  have b1 := hI.1 (v5 + 1) (by omega) (by omega)
  rw [zor_bytes (by omega) (by omega)]
  exact ⟨by omega, by omega, by omega, by omega, by omega, by omega, fun _ => f85 _ (by omega), fun _ => s_aboutOffset hL hm h43 hk (fun x x0 x1 => f85 _ (by omega))⟩
/-- the image -/
def IG (σ : ZS) : Prop := IM σ ∧ (0 ≤ zI σ 0 62 ∧ zI σ 0 62 ≤ 1200) ∧ (0 ≤ zI σ 0 64 ∧ zI σ 0 64 ≤ 600) ∧ (0 ≤ zI σ 0 60 ∧ zI σ 0 60 ≤ 1) ∧ (0 ≤ zI σ 0 65 ∧ zI σ 0 65 ≤ 100) ∧ (0 ≤ zI σ 0 66 ∧ zI σ 0 66 ≤ 65535)
abbrev KF : List Nat := [0, 3, 4, 60, 62, 64, 65, 66, 73]
abbrev KA : List Nat := [61, 63, 67, 68, 69, 70, 71, 72]
theorem s_link {σ : ZS} {Q : Int → ZS → Prop} (hA : MA σ) (hI : IG σ) (hQ : ∀ (r : Int) (τ : ZS), IG τ → fr KF KA σ τ → (0 ≤ r ∧ r ≤ 1200) → Q r τ) : wpX11_link σ Q := by
  -- behind the checks
  have f142 : ∀ (τ : ZS) (m0 k0 : Int), fr KF KA σ τ → LK τ → IG τ → (0 ≤ m0 ∧ m0 ≤ 2) → zA τ 0 43 m0 ≠ 0 → (0 ≤ k0 ∧ k0 < zA τ 0 56 m0) → wpX11_link_142 (80 * m0 + k0) (zA τ 0 67 0) 0 τ Q := by
    intro τ m0 k0 hf hL hIt hm0 h43 hk0
    have hAt := hL.1
    have hC := hL.2.1
    have h73 := hC.1
    have h1200 := hL.2.2.2
    have hend := hC.2.2.2
    -- the end
    have f302 : ∀ υ : ZS, fr [60, 62, 64] [61, 63] τ υ → IM υ → zI υ 0 60 = 1 → zI υ 0 62 = zA τ 0 67 0 → zI υ 0 64 = 0 → wpX11_link_302 0 (80 * m0 + k0) (zA τ 0 67 0) υ Q := by
      intro υ0 hf0 hI0 h60 h62 h640
      unfold wpX11_link_302
      refine lfp1_ind (fun v _ => (3 - v).toNat) (fun v υ => (0 ≤ v ∧ v ≤ 3) ∧ fr [60, 62, 64] [61, 63] τ υ ∧ IM υ ∧ zI υ 0 60 = 1 ∧ zI υ 0 62 = zA τ 0 67 0 ∧ (0 ≤ zI υ 0 64 ∧ zI υ 0 64 ≤ 200 * v)) ?_ ⟨by omega, hf0, hI0, h60, h62, by omega⟩
      intro P m υ ⟨hm, hfu, hIu, u60, u62, u64⟩ ih
      show wpbX11_link_302 P (80 * m0 + k0) (zA τ 0 67 0) m υ Q
      unfold wpbX11_link_302
      have hLu : LK υ := hL.up hfu.2 (hfu.1 73 (by decide))
      refine ⟨by omega, fun _ => ?_, fun nq => ?_⟩
      · have hMI := hAt.2 m0 hm0.1 hm0.2
        have h56 := hMI.1.2.2
        have h44 := hMI.1.1
        have hp := hMI.2.2.2 k0 hk0.1 hk0.2
        have e : (80 * m0 + k0) / 80 = m0 := by omega
        have hc := hC.2.1 m0 _ hm0.1 hm0.2 hp.1.1 hp.1.2 h43
        have hd := hC.2.2.1 _ hc.1.1 hc.1.2
        have hs := hMI.2.1 _ hp.1.1 hp.1.2
        rw [e, hfu.2 58 (by decide), hfu.2 59 (by decide), hfu.2 70 (by decide), hfu.2 71 (by decide), hfu.2 72 (by decide)]
        refine ⟨by omega, by omega, by omega, by omega, by omega, hQ _ _ ⟨hIu, ?_, ?_, ?_, ?_, ?_⟩ ((((hf.tr (hfu.up (by decide) (by decide))).ti (by decide)).ti (by decide)).ti (by decide) |>.ti (by decide)) (by omega)⟩
        · show 0 ≤ zI υ 0 62 ∧ zI υ 0 62 ≤ 1200; omega
        · show 0 ≤ zI υ 0 64 ∧ zI υ 0 64 ≤ 600; omega
        · show 0 ≤ zI υ 0 60 ∧ zI υ 0 60 ≤ 1; omega
        · show 0 ≤ zA τ 0 70 (zA τ 0 71 (24 * m0 + zA τ 0 58 (80 * m0 + k0))) / 16 ∧ zA τ 0 70 (zA τ 0 71 (24 * m0 + zA τ 0 58 (80 * m0 + k0))) / 16 ≤ 100; omega
        · show 0 ≤ zA τ 0 72 (24 * m0 + zA τ 0 58 (80 * m0 + k0)) + zA τ 0 59 (80 * m0 + k0) ∧ zA τ 0 72 (24 * m0 + zA τ 0 58 (80 * m0 + k0)) + zA τ 0 59 (80 * m0 + k0) ≤ 65535; omega
      · have hMI := hAt.2 m hm.1 (by omega)
        have h50 := hMI.1.2.1
        have h43m := hAt.1.2.2.2.2 m (by omega) (by omega)
        unfold wpX11_link_310
        refine lfp1_ind (fun v _ => (200 - v).toNat) (fun v υ => (0 ≤ v ∧ v ≤ zA τ 0 50 m) ∧ fr [60, 62, 64] [61, 63] τ υ ∧ IM υ ∧ zI υ 0 60 = 1 ∧ zI υ 0 62 = zA τ 0 67 0 ∧ (0 ≤ zI υ 0 64 ∧ zI υ 0 64 ≤ 200 * m + v)) ?_ ⟨by omega, hfu, hIu, u60, u62, by omega⟩
        intro P9 k ω ⟨hk, hfw, hIw, w60, w62, w64⟩ ih9
        show wpbX11_link_310 P P9 m (80 * m0 + k0) (zA τ 0 67 0) k ω Q
        unfold wpbX11_link_310 wpX11_link_349
        have out : P (m + 1) ω := ih _ _ ⟨by omega, hfw, hIw, w60, w62, by omega⟩ (by show (3 - (m + 1)).toNat < (3 - m).toNat; omega)
        rw [hfw.2 50 (by decide), hfw.2 43 (by decide)]
        refine ⟨by omega, by omega, by omega, fun _ => out, fun ne9 => ⟨by omega, fun _ => out, fun nz => ?_⟩⟩
        refine s_solve (hL.up hfw.2 (hfw.1 73 (by decide))) hIw ⟨hm.1, by omega⟩ (by rw [hfw.2 43 (by decide)]; exact nz) (by rw [hfw.2 50 (by decide)]; omega) (by omega) (fun ψ hfp hIp h64p => ?_)
        exact ih9 _ _ ⟨by omega, hfw.tr (hfp.up (by decide) (by decide)), hIp, by rw [hfp.1 60 (by decide)]; exact w60, by rw [hfp.1 62 (by decide)]; exact w62, by omega⟩ (by show (200 - (k + 1)).toNat < (200 - k).toNat; omega)
    -- the bytes are copied
    have f181 : ∀ υ : ZS, fr [60, 62, 64] [61, 63] τ υ → IM υ → zI υ 0 60 = 1 → zI υ 0 62 = zA τ 0 67 0 → zI υ 0 64 = 0 → wpX11_link_181 0 (80 * m0 + k0) (zA τ 0 67 0) υ Q := by
      intro υ0 hf0 hI0 h60 h62 h640
      unfold wpX11_link_181
      refine lfp1_ind (fun v _ => (3 - v).toNat) (fun v υ => (0 ≤ v ∧ v ≤ 3) ∧ fr [60, 62, 64] [61, 63] τ υ ∧ IM υ ∧ zI υ 0 60 = 1 ∧ zI υ 0 62 = zA τ 0 67 0 ∧ zI υ 0 64 = 0) ?_ ⟨by omega, hf0, hI0, h60, h62, h640⟩
      intro P m υ ⟨hm, hfu, hIu, u60, u62, u64⟩ ih
      show wpbX11_link_181 P (80 * m0 + k0) (zA τ 0 67 0) m υ Q
      unfold wpbX11_link_181
      refine ⟨by omega, fun _ => f302 υ hfu hIu u60 u62 u64, fun nq => ?_⟩
      have hMI := hAt.2 m hm.1 (by omega)
      have h44 := hMI.1.1
      have h43m := hAt.1.2.2.2.2 m (by omega) (by omega)
      unfold wpX11_link_189
      refine lfp1_ind (fun v _ => (24 - v).toNat) (fun v υ => (0 ≤ v ∧ v ≤ zA τ 0 44 m) ∧ fr [60, 62, 64] [61, 63] τ υ ∧ IM υ ∧ zI υ 0 60 = 1 ∧ zI υ 0 62 = zA τ 0 67 0 ∧ zI υ 0 64 = 0) ?_ ⟨by omega, hfu, hIu, u60, u62, u64⟩
      intro P9 s ω ⟨hs, hfw, hIw, w60, w62, w64⟩ ih9
      show wpbX11_link_189 P P9 m (80 * m0 + k0) (zA τ 0 67 0) s ω Q
      unfold wpbX11_link_189 wpX11_link_294
      have out : P (m + 1) ω := ih _ _ ⟨by omega, hfw, hIw, w60, w62, w64⟩ (by show (3 - (m + 1)).toNat < (3 - m).toNat; omega)
      rw [hfw.2 44 (by decide), hfw.2 43 (by decide)]
      refine ⟨by omega, by omega, by omega, fun _ => out, fun ne9 => ⟨by omega, fun _ => out, fun nz => ?_⟩⟩
      have hsg := hMI.2.1 s hs.1 (by omega)
      have hc := hC.2.1 m s hm.1 (by omega) hs.1 (by omega) nz
      have hd := hC.2.2.1 _ hc.1.1 hc.1.2
      unfold wpX11_link_221
      refine lfp1_ind (fun v _ => (400 - v).toNat) (fun v υ => (0 ≤ v ∧ v ≤ zA τ 0 48 (24 * m + s)) ∧ fr [60, 62, 64] [61, 63] τ υ ∧ IM υ ∧ zI υ 0 60 = 1 ∧ zI υ 0 62 = zA τ 0 67 0 ∧ zI υ 0 64 = 0) ?_ ⟨by omega, hfw, hIw, w60, w62, w64⟩
      intro P21 i ψ ⟨hi, hfp, hIp, p60, p62, p64⟩ ih21
      show wpbX11_link_221 P P9 P21 m (80 * m0 + k0) (zA τ 0 67 0) s (24 * m + s) i ψ Q
      unfold wpbX11_link_221
      rw [hfp.2 48 (by decide), hfp.2 71 (by decide), hfp.2 47 (by decide), hfp.2 70 (by decide), hfp.2 72 (by decide), hfp.2 49 (by decide)]
      refine ⟨by omega, by omega, by omega, fun _ => ih9 _ _ ⟨by omega, hfp, hIp, p60, p62, p64⟩ (by show (24 - (s + 1)).toNat < (24 - s).toNat; omega), fun ni => ?_⟩
      have h49 := hAt.1.2.2.2.1 (400 * m + zA τ 0 47 (24 * m + s) + i) (by omega) (by omega)
      exact ⟨by omega, by omega, by omega, ih21 _ _ ⟨by omega, hfp.ta (by decide), hIp.u61 h49, p60, p62, p64⟩ (by show (400 - (i + 1)).toNat < (400 - i).toNat; omega)⟩
    unfold wpX11_link_142
    refine lfp1_ind (fun v _ => (1200 - v).toNat) (fun v υ => (0 ≤ v ∧ v ≤ 1200) ∧ fr [60, 62, 64] [61, 63] τ υ ∧ IM υ) ?_ ⟨by omega, fr.rf, hIt.1⟩
    intro P v υ ⟨hv, hfu, hIu⟩ ih
    show wpbX11_link_142 P (80 * m0 + k0) (zA τ 0 67 0) v υ Q
    unfold wpbX11_link_142
    refine ⟨by omega, fun _ => f181 _ (((hfu.ti (by decide)).ti (by decide)).ti (by decide)) hIu rfl rfl rfl, fun nv => ⟨by omega, ih _ _ ⟨by omega, hfu.ta (by decide), hIu.u61 (by decide)⟩ (by show (1200 - (v + 1)).toNat < (1200 - v).toNat; omega)⟩⟩
  have f38 : wpX11_link_38 (zsI σ 0 0 0) Q := by
    obtain ⟨α, hα⟩ : ∃ α, α = zsI σ 0 0 0 := ⟨_, rfl⟩
    have hfα : fr KF KA σ α := by rw [hα]; exact fr.i (by decide)
    have hAα : MA α := by rw [hα]; exact hA
    have hIα : IG α := by rw [hα]; exact hI
    rw [← hα]
    have tell : ∀ x y z : Int, Q 0 (zsI (zsI (zsI α 0 3 x) 0 4 y) 0 0 z) := fun x y z => hQ 0 _ hIα (((hfα.ti (by decide)).ti (by decide)).ti (by decide)) (by decide)
    unfold wpX11_link_38
    refine s_twice hAα (fun r hr => ⟨by omega, fun _ => ?_, fun _ => tell _ _ _⟩)
    refine s_missing hAα (fun hN => ⟨by decide, fun _ => ?_, fun q => absurd (by decide) q⟩) (fun r hr => ⟨by omega, fun q => absurd q (by omega), fun _ => tell _ _ _⟩)
    refine s_publicOf hAα (by decide) (fun _ => ⟨by decide, fun q => absurd q (by decide), fun _ => tell _ _ _⟩) (fun m0 k0 hm0 hk0 h43 _ => ?_)
    have hMI := hAα.2 m0 hm0.1 hm0.2
    refine ⟨by have := hMI.1.2.2; omega, fun _ => ?_, fun q => absurd (by omega) q⟩
    refine s_combine hAα (fun β hfβ hCβ => ?_)
    have haw : ∀ j : Nat, j ∈ WA → zA β 0 j = zA α 0 j := fun j hj => hfβ.2 j (fun q => absurd hj ((show ∀ k ∈ CA, k ∉ WA by decide) j q))
    have hfβ' : fr KF KA σ β := hfα.tr (hfβ.up (by decide) (by decide))
    have hIβ : IG β := by
      unfold IG IM
      rw [hfβ.2 61 (by decide), hfβ.2 63 (by decide), hfβ.1 62 (by decide), hfβ.1 64 (by decide), hfβ.1 60 (by decide), hfβ.1 65 (by decide), hfβ.1 66 (by decide)]
      exact hIα
    have tellβ : ∀ x y z : Int, Q 0 (zsI (zsI (zsI β 0 3 x) 0 4 y) 0 0 z) := fun x y z => hQ 0 _ hIβ (((hfβ'.ti (by decide)).ti (by decide)).ti (by decide)) (by decide)
    have hend := hCβ.2.2.2
    refine ⟨by omega, fun le => ?_, fun _ => tellβ _ _ _⟩
    have hLβ : LK β := ⟨hAα.up haw, hCβ, hN.up haw, le⟩
    refine s_far hLβ (fun r hr => ⟨by omega, fun _ => ?_, fun _ => tellβ _ _ _⟩)
    exact f142 β m0 k0 hfβ' hLβ hIβ hm0 (by rw [haw 43 (by decide)]; exact h43) (by rw [haw 56 (by decide)]; exact hk0)
  have h0 := hA.1.2.2.2.2 0 (by decide) (by decide)
  have h1 := hA.1.2.2.2.2 1 (by decide) (by decide)
  have h2 := hA.1.2.2.2.2 2 (by decide) (by decide)
  unfold wpX11_link
  exact ⟨by omega, fun _ => f38, fun _ => ⟨by omega, fun _ => f38, fun _ => ⟨by omega, fun _ => f38, fun _ => hQ 0 _ hI ((fr.rf.ti (by decide)).ti (by decide)) (by decide)⟩⟩⟩
