/-! P: the reference links -/
def LK (σ : ZS) : Prop := MA σ ∧ CB σ ∧ NoMiss σ ∧ zA σ 0 67 0 ≤ 1200
theorem MA.up {σ τ : ZS} (h : MA σ) (a : ∀ j : Nat, j ∈ WA → zA τ 0 j = zA σ 0 j) : MA τ := ⟨h.1.up a, fun n x y => (h.2 n x y).up a⟩
theorem NoMiss.up {σ τ : ZS} (h : NoMiss σ) (a : ∀ j : Nat, j ∈ WA → zA τ 0 j = zA σ 0 j) : NoMiss τ := by
  unfold NoMiss Pub
  rw [a 43 (by decide), a 50 (by decide), a 54 (by decide), a 55 (by decide), a 56 (by decide), a 57 (by decide)]
  exact h
theorem LK.up {σ τ : ZS} (h : LK σ) (a : ∀ j : Nat, j ∉ [61, 63] → zA τ 0 j = zA σ 0 j) (i : zI τ 0 73 = zI σ 0 73) : LK τ := by
  have aw : ∀ j : Nat, j ∈ WA → zA τ 0 j = zA σ 0 j := fun j hj => a j (fun q => absurd hj ((show ∀ k ∈ [61, 63], k ∉ WA by decide) j q))
  refine ⟨h.1.up aw, ?_, h.2.2.1.up aw, by rw [a 67 (by decide)]; exact h.2.2.2⟩
  unfold CB
  rw [a 43 (by decide), a 44 (by decide), a 48 (by decide), a 67 (by decide), a 69 (by decide), a 70 (by decide), a 71 (by decide), a 72 (by decide), i]
  exact h.2.1
theorem s_aboutSegment {σ : ZS} {m k : Int} {Q : Int → ZS → Prop} (hL : LK σ) (hm : 0 ≤ m ∧ m ≤ 2) (h43 : zA σ 0 43 m ≠ 0) (hk : 0 ≤ k ∧ k < zA σ 0 50 m) (hQ : ∀ x : Int, 0 ≤ x → x < zI σ 0 73 → Q x σ) : wpX11_aboutSegment m (200 * m + k) σ Q := by
  obtain ⟨hA, hC, hN, -⟩ := hL
  have hMI := hA.2 m hm.1 hm.2
  have h50 := hMI.1.2.1
  have h44 := hMI.1.1
  have hfx := (hMI.2.2.1 k hk.1 hk.2).2.2.2.2
  have h55 := hA.1.2.1 (200 * m + k) (by omega) (by omega)
  unfold wpX11_aboutSegment
  refine ⟨by omega, by omega, fun l => ?_, fun nl => ⟨by omega, ?_⟩⟩
  · refine s_publicOf hA h55 (fun q => absurd (hN m k hm.1 hm.2 h43 hk.1 hk.2 l) q) (fun m' k' hm' hk' h43' _ => ?_)
    have hMI' := hA.2 m' hm'.1 hm'.2
    have h56' := hMI'.1.2.2
    have h44' := hMI'.1.1
    have hp := hMI'.2.2.2 k' hk'.1 hk'.2
    have e : (80 * m' + k') / 80 = m' := by omega
    have hc := (hC.2.1 m' _ hm'.1 hm'.2 hp.1.1 hp.1.2 h43').1
    rw [e]
    exact ⟨by omega, by omega, by omega, hQ _ hc.1 hc.2⟩
  · have hc := (hC.2.1 m _ hm.1 hm.2 (by omega) hfx.2 h43).1
    exact hQ _ hc.1 hc.2
theorem s_aboutOffset {σ : ZS} {m k : Int} {Q : Int → ZS → Prop} (hL : LK σ) (hm : 0 ≤ m ∧ m ≤ 2) (h43 : zA σ 0 43 m ≠ 0) (hk : 0 ≤ k ∧ k < zA σ 0 50 m) (hQ : ∀ x : Int, 0 ≤ x → x ≤ 100000 → Q x σ) : wpX11_aboutOffset m (200 * m + k) σ Q := by
  obtain ⟨hA, hC, hN, -⟩ := hL
  have hMI := hA.2 m hm.1 hm.2
  have h50 := hMI.1.2.1
  have h44 := hMI.1.1
  have hfx := (hMI.2.2.1 k hk.1 hk.2).2.2.2.2
  have h55 := hA.1.2.1 (200 * m + k) (by omega) (by omega)
  have off : ∀ m' s' : Int, 0 ≤ m' → m' ≤ 2 → 0 ≤ s' → s' < zA σ 0 44 m' → zA σ 0 43 m' ≠ 0 → 0 ≤ zA σ 0 72 (24 * m' + s') ∧ zA σ 0 72 (24 * m' + s') ≤ 30000 := by
    intro m' s' m0 m1 s0 s1 h
    have hc := hC.2.1 m' s' m0 m1 s0 s1 h
    have hd := hC.2.2.1 _ hc.1.1 hc.1.2
    have hs := (hA.2 m' m0 m1).2.1 s' s0 s1
    omega
  unfold wpX11_aboutOffset
  refine ⟨by omega, by omega, fun l => ?_, fun nl => ⟨by omega, ?_⟩⟩
  · refine s_publicOf hA h55 (fun q => absurd (hN m k hm.1 hm.2 h43 hk.1 hk.2 l) q) (fun m' k' hm' hk' h43' _ => ?_)
    have hMI' := hA.2 m' hm'.1 hm'.2
    have h56' := hMI'.1.2.2
    have h44' := hMI'.1.1
    have hp := hMI'.2.2.2 k' hk'.1 hk'.2
    have e : (80 * m' + k') / 80 = m' := by omega
    have hc := off m' _ hm'.1 hm'.2 hp.1.1 hp.1.2 h43'
    rw [e]
    exact ⟨by omega, by omega, by omega, hQ _ (by omega) (by omega)⟩
  · have hc := off m _ hm.1 hm.2 (by omega) hfx.2 h43
    exact hQ _ (by omega) (by omega)
theorem s_far {σ : ZS} {Q : Int → ZS → Prop} (hL : LK σ) (hQ : ∀ r : Int, (-1 ≤ r ∧ r ≤ 2) → Q r σ) : wpX11_far σ Q := by
  have hA := hL.1
  unfold wpX11_far wpX11_far_2
  refine lfp1_ind (fun v _ => (3 - v).toNat) (fun v τ => τ = σ ∧ (0 ≤ v ∧ v ≤ 3)) ?_ ⟨rfl, by omega⟩
  intro P m τ ⟨he, hm⟩ ih
  rw [he]
  show wpbX11_far_2 P m σ Q
  unfold wpbX11_far_2
  refine ⟨by omega, fun _ => hQ _ (by decide), fun ne => ?_⟩
  have hMI := hA.2 m hm.1 (by omega)
  have h50 := hMI.1.2.1
  have h44 := hMI.1.1
  have h43 := hA.1.2.2.2.2 m (by omega) (by omega)
  have out : P (m + 1) σ := ih _ _ ⟨rfl, by omega⟩ (by show (3 - (m + 1)).toNat < (3 - m).toNat; omega)
  unfold wpX11_far_9
  refine lfp1_ind (fun v _ => (200 - v).toNat) (fun v τ => τ = σ ∧ (0 ≤ v ∧ v ≤ zA σ 0 50 m)) ?_ ⟨rfl, by omega⟩
  intro P9 k τ ⟨he9, hk⟩ ih9
  rw [he9]
  show wpbX11_far_9 P P9 m k σ Q
  unfold wpbX11_far_9 wpX11_far_79 wpX11_far_73
  refine ⟨by omega, by omega, by omega, fun _ => out, fun ne9 => ⟨by omega, fun _ => out, fun nz => ?_⟩⟩
  have next : P9 (k + 1) σ := ih9 _ _ ⟨rfl, by omega⟩ (by show (200 - (k + 1)).toNat < (200 - k).toNat; omega)
  have hfx := hMI.2.2.1 k hk.1 (by omega)
  have hc := (hL.2.1.2.1 m _ hm.1 (by omega) hfx.2.1.1 hfx.2.1.2 nz).1
  have h73 := hL.2.1.1
  refine ⟨by omega, by omega, fun _ => next, fun _ => ?_⟩
  exact s_aboutSegment hL ⟨hm.1, by omega⟩ nz ⟨hk.1, by omega⟩ (fun x x0 x1 => ⟨by omega, by omega, by omega, fun _ => next, fun _ => hQ _ (by omega)⟩)
/-- the image's cells -/
def IM (σ : ZS) : Prop := (∀ i : Int, 0 ≤ i → i < 1200 → 0 ≤ zA σ 0 61 i ∧ zA σ 0 61 i ≤ 255) ∧ (∀ k : Int, 0 ≤ k → k < 600 → 0 ≤ zA σ 0 63 k ∧ zA σ 0 63 k ≤ 1199)
theorem IM.u61 {σ : ZS} {i v : Int} (h : IM σ) (hv : 0 ≤ v ∧ v ≤ 255) : IM (zsA σ 0 61 i v) := ⟨rng_zu h.1 hv, h.2⟩
theorem IM.u63 {σ : ZS} {i v : Int} (h : IM σ) (hv : 0 ≤ v ∧ v ≤ 1199) : IM (zsA σ 0 63 i v) := ⟨h.1, rng_zu h.2 hv⟩
theorem s_solve {σ : ZS} {m k : Int} {Q : ZS → Prop} (hL : LK σ) (hI : IM σ) (hm : 0 ≤ m ∧ m ≤ 2) (h43 : zA σ 0 43 m ≠ 0) (hk : 0 ≤ k ∧ k < zA σ 0 50 m) (h64 : 0 ≤ zI σ 0 64 ∧ zI σ 0 64 < 600) (hQ : ∀ τ : ZS, fr [64] [61, 63] σ τ → IM τ → (0 ≤ zI τ 0 64 ∧ zI τ 0 64 ≤ zI σ 0 64 + 1) → Q τ) : wpX11_solve m (200 * m + k) σ Q := by
  have hA := hL.1
  have hC := hL.2.1
  have h1200 := hL.2.2.2
  have hMI := hA.2 m hm.1 hm.2
  have h50 := hMI.1.2.1
  have h44 := hMI.1.1
  have hfx := hMI.2.2.1 k hk.1 hk.2
  have hc := hC.2.1 m _ hm.1 hm.2 hfx.2.1.1 hfx.2.1.2 h43
  have hd := hC.2.2.1 _ hc.1.1 hc.1.2
  have h73 := hC.1
  obtain ⟨v4, e4⟩ : ∃ v4, v4 = zA σ 0 72 (24 * m + zA σ 0 52 (200 * m + k)) + zA σ 0 53 (200 * m + k) := ⟨_, rfl⟩
  obtain ⟨v5, e5⟩ : ∃ v5, v5 = zA σ 0 70 (zA σ 0 71 (24 * m + zA σ 0 52 (200 * m + k))) + v4 := ⟨_, rfl⟩
  have h4 : 0 ≤ v4 ∧ v4 ≤ 30000 := by omega
  have h5 : 0 ≤ v5 ∧ v5 + 1 < 1200 := by omega
  have f155 : ∀ (v6 : Int) (τ : ZS), fr [64] [61, 63] σ τ → IM τ → (0 ≤ zI τ 0 64 ∧ zI τ 0 64 ≤ zI σ 0 64 + 1) → (-1000000 ≤ v6 ∧ v6 ≤ 1000000) → wpX11_solve_155 v5 v6 τ Q := by
    intro v6 τ hf hIt h6 hv
    unfold wpX11_solve_155
    exact ⟨by omega, by omega, by omega, hQ _ ((hf.ta (by decide)).ta (by decide)) ((hIt.u61 (by omega)).u61 (by omega)) h6⟩
  have f132 : ∀ (v6 : Int) (τ : ZS), fr [64] [61, 63] σ τ → IM τ → (0 ≤ zI τ 0 64 ∧ zI τ 0 64 ≤ zI σ 0 64 + 1) → (-1000000 ≤ v6 ∧ v6 ≤ 1000000) → wpX11_solve_132 m (200 * m + k) v4 v5 v6 τ Q := by
    intro v6 τ hf hIt h6 hv
    unfold wpX11_solve_132
    rw [hf.2 51 (by decide)]
    refine ⟨by omega, by omega, fun _ => f155 v6 τ hf hIt h6 hv, fun _ => ?_⟩
    exact s_aboutOffset (hL.up hf.2 (hf.1 73 (by decide))) hm (by rw [hf.2 43 (by decide)]; exact h43) (by rw [hf.2 50 (by decide)]; exact hk) (fun x x0 x1 => f155 _ τ hf hIt h6 (by omega))
  have f85 : ∀ v6 : Int, (-1000000 ≤ v6 ∧ v6 ≤ 1000000) → wpX11_solve_85 m (200 * m + k) v4 v5 v6 σ Q := by
    intro v6 hv
    unfold wpX11_solve_85
    refine ⟨by omega, by omega, fun _ => f132 v6 σ fr.rf hI (by omega) hv, fun _ => ?_⟩
    refine s_aboutSegment hL hm h43 hk (fun x x0 x1 => ?_)
    have hx := hC.2.2.1 x x0 x1
    refine ⟨by omega, by omega, h64, f132 _ _ ((fr.rf.ta (by decide)).ti (by decide)) (hI.u63 (by omega)) ?_ (by omega)⟩
    show 0 ≤ zI σ 0 64 + 1 ∧ zI σ 0 64 + 1 ≤ zI σ 0 64 + 1
    omega
  unfold wpX11_solve
  rw [← e4, ← e5]
  have b0 := hI.1 v5 h5.1 (by omega)
  have b1 := hI.1 (v5 + 1) (by omega) (by omega)
  rw [zor_bytes (by omega) (by omega)]
  exact ⟨by omega, by omega, by omega, by omega, by omega, by omega, fun _ => f85 _ (by omega), fun _ => s_aboutOffset hL hm h43 hk (fun x x0 x1 => f85 _ (by omega))⟩
/-- the image -/
def IG (σ : ZS) : Prop := IM σ ∧ (0 ≤ zI σ 0 62 ∧ zI σ 0 62 ≤ 1200) ∧ (0 ≤ zI σ 0 64 ∧ zI σ 0 64 ≤ 600) ∧ (0 ≤ zI σ 0 60 ∧ zI σ 0 60 ≤ 1) ∧ (0 ≤ zI σ 0 65 ∧ zI σ 0 65 ≤ 100) ∧ (0 ≤ zI σ 0 66 ∧ zI σ 0 66 ≤ 65535)
abbrev KF : List Nat := [0, 3, 4, 60, 62, 64, 65, 66, 73]
abbrev KA : List Nat := [61, 63, 67, 68, 69, 70, 71, 72]
theorem s_link {σ : ZS} {Q : Int → ZS → Prop} (hA : MA σ) (hI : IG σ) (hQ : ∀ (r : Int) (τ : ZS), IG τ → fr KF KA σ τ → (0 ≤ r ∧ r ≤ 1200) → Q r τ) : wpX11_link σ Q := by
  -- behind the checks
  have f142 : ∀ (τ : ZS) (m0 k0 : Int), fr KF KA σ τ → LK τ → IG τ → (0 ≤ m0 ∧ m0 ≤ 2) → zA τ 0 43 m0 ≠ 0 → (0 ≤ k0 ∧ k0 < zA τ 0 56 m0) → wpX11_link_142 (80 * m0 + k0) (zA τ 0 67 0) 0 τ Q := by
    intro τ m0 k0 hf hL hIt hm0 h43 hk0
    have hAt := hL.1
    have hC := hL.2.1
    have h73 := hC.1
    have h1200 := hL.2.2.2
    have hend := hC.2.2.2
    -- the end
    have f302 : ∀ υ : ZS, fr [60, 62, 64] [61, 63] τ υ → IM υ → zI υ 0 60 = 1 → zI υ 0 62 = zA τ 0 67 0 → zI υ 0 64 = 0 → wpX11_link_302 0 (80 * m0 + k0) (zA τ 0 67 0) υ Q := by
      intro υ0 hf0 hI0 h60 h62 h640
      unfold wpX11_link_302
      refine lfp1_ind (fun v _ => (3 - v).toNat) (fun v υ => (0 ≤ v ∧ v ≤ 3) ∧ fr [60, 62, 64] [61, 63] τ υ ∧ IM υ ∧ zI υ 0 60 = 1 ∧ zI υ 0 62 = zA τ 0 67 0 ∧ (0 ≤ zI υ 0 64 ∧ zI υ 0 64 ≤ 200 * v)) ?_ ⟨by omega, hf0, hI0, h60, h62, by omega⟩
      intro P m υ ⟨hm, hfu, hIu, u60, u62, u64⟩ ih
      show wpbX11_link_302 P (80 * m0 + k0) (zA τ 0 67 0) m υ Q
      unfold wpbX11_link_302
      have hLu : LK υ := hL.up hfu.2 (hfu.1 73 (by decide))
      refine ⟨by omega, fun _ => ?_, fun nq => ?_⟩
      · have hMI := hAt.2 m0 hm0.1 hm0.2
        have h56 := hMI.1.2.2
        have h44 := hMI.1.1
        have hp := hMI.2.2.2 k0 hk0.1 hk0.2
        have e : (80 * m0 + k0) / 80 = m0 := by omega
        have hc := hC.2.1 m0 _ hm0.1 hm0.2 hp.1.1 hp.1.2 h43
        have hd := hC.2.2.1 _ hc.1.1 hc.1.2
        have hs := hMI.2.1 _ hp.1.1 hp.1.2
        rw [e, hfu.2 58 (by decide), hfu.2 59 (by decide), hfu.2 70 (by decide), hfu.2 71 (by decide), hfu.2 72 (by decide)]
        refine ⟨by omega, by omega, by omega, by omega, by omega, hQ _ _ ⟨hIu, ?_, ?_, ?_, ?_, ?_⟩ ((((hf.tr (hfu.up (by decide) (by decide))).ti (by decide)).ti (by decide)).ti (by decide) |>.ti (by decide)) (by omega)⟩
        · show 0 ≤ zI υ 0 62 ∧ zI υ 0 62 ≤ 1200; omega
        · show 0 ≤ zI υ 0 64 ∧ zI υ 0 64 ≤ 600; omega
        · show 0 ≤ zI υ 0 60 ∧ zI υ 0 60 ≤ 1; omega
        · show 0 ≤ zA τ 0 70 (zA τ 0 71 (24 * m0 + zA τ 0 58 (80 * m0 + k0))) / 16 ∧ zA τ 0 70 (zA τ 0 71 (24 * m0 + zA τ 0 58 (80 * m0 + k0))) / 16 ≤ 100; omega
        · show 0 ≤ zA τ 0 72 (24 * m0 + zA τ 0 58 (80 * m0 + k0)) + zA τ 0 59 (80 * m0 + k0) ∧ zA τ 0 72 (24 * m0 + zA τ 0 58 (80 * m0 + k0)) + zA τ 0 59 (80 * m0 + k0) ≤ 65535; omega
      · have hMI := hAt.2 m hm.1 (by omega)
        have h50 := hMI.1.2.1
        have h43m := hAt.1.2.2.2.2 m (by omega) (by omega)
        unfold wpX11_link_310
        refine lfp1_ind (fun v _ => (200 - v).toNat) (fun v υ => (0 ≤ v ∧ v ≤ zA τ 0 50 m) ∧ fr [60, 62, 64] [61, 63] τ υ ∧ IM υ ∧ zI υ 0 60 = 1 ∧ zI υ 0 62 = zA τ 0 67 0 ∧ (0 ≤ zI υ 0 64 ∧ zI υ 0 64 ≤ 200 * m + v)) ?_ ⟨by omega, hfu, hIu, u60, u62, by omega⟩
        intro P9 k ω ⟨hk, hfw, hIw, w60, w62, w64⟩ ih9
        show wpbX11_link_310 P P9 m (80 * m0 + k0) (zA τ 0 67 0) k ω Q
        unfold wpbX11_link_310 wpX11_link_349
        have out : P (m + 1) ω := ih _ _ ⟨by omega, hfw, hIw, w60, w62, by omega⟩ (by show (3 - (m + 1)).toNat < (3 - m).toNat; omega)
        rw [hfw.2 50 (by decide), hfw.2 43 (by decide)]
        refine ⟨by omega, by omega, by omega, fun _ => out, fun ne9 => ⟨by omega, fun _ => out, fun nz => ?_⟩⟩
        refine s_solve (hL.up hfw.2 (hfw.1 73 (by decide))) hIw ⟨hm.1, by omega⟩ (by rw [hfw.2 43 (by decide)]; exact nz) (by rw [hfw.2 50 (by decide)]; omega) (by omega) (fun ψ hfp hIp h64p => ?_)
        exact ih9 _ _ ⟨by omega, hfw.tr (hfp.up (by decide) (by decide)), hIp, by rw [hfp.1 60 (by decide)]; exact w60, by rw [hfp.1 62 (by decide)]; exact w62, by omega⟩ (by show (200 - (k + 1)).toNat < (200 - k).toNat; omega)
    -- the bytes are copied
    have f181 : ∀ υ : ZS, fr [60, 62, 64] [61, 63] τ υ → IM υ → zI υ 0 60 = 1 → zI υ 0 62 = zA τ 0 67 0 → zI υ 0 64 = 0 → wpX11_link_181 0 (80 * m0 + k0) (zA τ 0 67 0) υ Q := by
      intro υ0 hf0 hI0 h60 h62 h640
      unfold wpX11_link_181
      refine lfp1_ind (fun v _ => (3 - v).toNat) (fun v υ => (0 ≤ v ∧ v ≤ 3) ∧ fr [60, 62, 64] [61, 63] τ υ ∧ IM υ ∧ zI υ 0 60 = 1 ∧ zI υ 0 62 = zA τ 0 67 0 ∧ zI υ 0 64 = 0) ?_ ⟨by omega, hf0, hI0, h60, h62, h640⟩
      intro P m υ ⟨hm, hfu, hIu, u60, u62, u64⟩ ih
      show wpbX11_link_181 P (80 * m0 + k0) (zA τ 0 67 0) m υ Q
      unfold wpbX11_link_181
      refine ⟨by omega, fun _ => f302 υ hfu hIu u60 u62 u64, fun nq => ?_⟩
      have hMI := hAt.2 m hm.1 (by omega)
      have h44 := hMI.1.1
      have h43m := hAt.1.2.2.2.2 m (by omega) (by omega)
      unfold wpX11_link_189
      refine lfp1_ind (fun v _ => (24 - v).toNat) (fun v υ => (0 ≤ v ∧ v ≤ zA τ 0 44 m) ∧ fr [60, 62, 64] [61, 63] τ υ ∧ IM υ ∧ zI υ 0 60 = 1 ∧ zI υ 0 62 = zA τ 0 67 0 ∧ zI υ 0 64 = 0) ?_ ⟨by omega, hfu, hIu, u60, u62, u64⟩
      intro P9 s ω ⟨hs, hfw, hIw, w60, w62, w64⟩ ih9
      show wpbX11_link_189 P P9 m (80 * m0 + k0) (zA τ 0 67 0) s ω Q
      unfold wpbX11_link_189 wpX11_link_294
      have out : P (m + 1) ω := ih _ _ ⟨by omega, hfw, hIw, w60, w62, w64⟩ (by show (3 - (m + 1)).toNat < (3 - m).toNat; omega)
      rw [hfw.2 44 (by decide), hfw.2 43 (by decide)]
      refine ⟨by omega, by omega, by omega, fun _ => out, fun ne9 => ⟨by omega, fun _ => out, fun nz => ?_⟩⟩
      have hsg := hMI.2.1 s hs.1 (by omega)
      have hc := hC.2.1 m s hm.1 (by omega) hs.1 (by omega) nz
      have hd := hC.2.2.1 _ hc.1.1 hc.1.2
      unfold wpX11_link_221
      refine lfp1_ind (fun v _ => (400 - v).toNat) (fun v υ => (0 ≤ v ∧ v ≤ zA τ 0 48 (24 * m + s)) ∧ fr [60, 62, 64] [61, 63] τ υ ∧ IM υ ∧ zI υ 0 60 = 1 ∧ zI υ 0 62 = zA τ 0 67 0 ∧ zI υ 0 64 = 0) ?_ ⟨by omega, hfw, hIw, w60, w62, w64⟩
      intro P21 i ψ ⟨hi, hfp, hIp, p60, p62, p64⟩ ih21
      show wpbX11_link_221 P P9 P21 m (80 * m0 + k0) (zA τ 0 67 0) s (24 * m + s) i ψ Q
      unfold wpbX11_link_221
      rw [hfp.2 48 (by decide), hfp.2 71 (by decide), hfp.2 47 (by decide), hfp.2 70 (by decide), hfp.2 72 (by decide), hfp.2 49 (by decide)]
      refine ⟨by omega, by omega, by omega, fun _ => ih9 _ _ ⟨by omega, hfp, hIp, p60, p62, p64⟩ (by show (24 - (s + 1)).toNat < (24 - s).toNat; omega), fun ni => ?_⟩
      have h49 := hAt.1.2.2.2.1 (400 * m + zA τ 0 47 (24 * m + s) + i) (by omega) (by omega)
      exact ⟨by omega, by omega, by omega, ih21 _ _ ⟨by omega, hfp.ta (by decide), hIp.u61 h49, p60, p62, p64⟩ (by show (400 - (i + 1)).toNat < (400 - i).toNat; omega)⟩
    unfold wpX11_link_142
    refine lfp1_ind (fun v _ => (1200 - v).toNat) (fun v υ => (0 ≤ v ∧ v ≤ 1200) ∧ fr [60, 62, 64] [61, 63] τ υ ∧ IM υ) ?_ ⟨by omega, fr.rf, hIt.1⟩
    intro P v υ ⟨hv, hfu, hIu⟩ ih
    show wpbX11_link_142 P (80 * m0 + k0) (zA τ 0 67 0) v υ Q
    unfold wpbX11_link_142
    refine ⟨by omega, fun _ => f181 _ (((hfu.ti (by decide)).ti (by decide)).ti (by decide)) hIu rfl rfl rfl, fun nv => ⟨by omega, ih _ _ ⟨by omega, hfu.ta (by decide), hIu.u61 (by decide)⟩ (by show (1200 - (v + 1)).toNat < (1200 - v).toNat; omega)⟩⟩
  have f38 : wpX11_link_38 (zsI σ 0 0 0) Q := by
    obtain ⟨α, hα⟩ : ∃ α, α = zsI σ 0 0 0 := ⟨_, rfl⟩
    have hfα : fr KF KA σ α := by rw [hα]; exact fr.i (by decide)
    have hAα : MA α := by rw [hα]; exact hA
    have hIα : IG α := by rw [hα]; exact hI
    rw [← hα]
    have tell : ∀ x y z : Int, Q 0 (zsI (zsI (zsI α 0 3 x) 0 4 y) 0 0 z) := fun x y z => hQ 0 _ hIα (((hfα.ti (by decide)).ti (by decide)).ti (by decide)) (by decide)
    unfold wpX11_link_38
    refine s_twice hAα (fun r hr => ⟨by omega, fun _ => ?_, fun _ => tell _ _ _⟩)
    refine s_missing hAα (fun hN => ⟨by decide, fun _ => ?_, fun q => absurd (by decide) q⟩) (fun r hr => ⟨by omega, fun q => absurd q (by omega), fun _ => tell _ _ _⟩)
    refine s_publicOf hAα (by decide) (fun _ => ⟨by decide, fun q => absurd q (by decide), fun _ => tell _ _ _⟩) (fun m0 k0 hm0 hk0 h43 _ => ?_)
    have hMI := hAα.2 m0 hm0.1 hm0.2
    refine ⟨by have := hMI.1.2.2; omega, fun _ => ?_, fun q => absurd (by omega) q⟩
    refine s_combine hAα (fun β hfβ hCβ => ?_)
    have haw : ∀ j : Nat, j ∈ WA → zA β 0 j = zA α 0 j := fun j hj => hfβ.2 j (fun q => absurd hj ((show ∀ k ∈ CA, k ∉ WA by decide) j q))
    have hfβ' : fr KF KA σ β := hfα.tr (hfβ.up (by decide) (by decide))
    have hIβ : IG β := by
      unfold IG IM
      rw [hfβ.2 61 (by decide), hfβ.2 63 (by decide), hfβ.1 62 (by decide), hfβ.1 64 (by decide), hfβ.1 60 (by decide), hfβ.1 65 (by decide), hfβ.1 66 (by decide)]
      exact hIα
    have tellβ : ∀ x y z : Int, Q 0 (zsI (zsI (zsI β 0 3 x) 0 4 y) 0 0 z) := fun x y z => hQ 0 _ hIβ (((hfβ'.ti (by decide)).ti (by decide)).ti (by decide)) (by decide)
    have hend := hCβ.2.2.2
    refine ⟨by omega, fun le => ?_, fun _ => tellβ _ _ _⟩
    have hLβ : LK β := ⟨hAα.up haw, hCβ, hN.up haw, le⟩
    refine s_far hLβ (fun r hr => ⟨by omega, fun _ => ?_, fun _ => tellβ _ _ _⟩)
    exact f142 β m0 k0 hfβ' hLβ hIβ hm0 (by rw [haw 43 (by decide)]; exact h43) (by rw [haw 56 (by decide)]; exact hk0)
  have h0 := hA.1.2.2.2.2 0 (by decide) (by decide)
  have h1 := hA.1.2.2.2.2 1 (by decide) (by decide)
  have h2 := hA.1.2.2.2.2 2 (by decide) (by decide)
  unfold wpX11_link
  exact ⟨by omega, fun _ => f38, fun _ => ⟨by omega, fun _ => f38, fun _ => ⟨by omega, fun _ => f38, fun _ => hQ 0 _ hI ((fr.rf.ti (by decide)).ti (by decide)) (by decide)⟩⟩⟩
/-! P: the reference's machine -/
abbrev MF : List Nat := [76, 77, 78, 80, 81, 82, 83, 84]
abbrev MR : List Nat := [74, 75, 79]
def MM (σ : ZS) (N : Int) : Prop := (∀ i : Int, 0 ≤ i → i < 4096 → 0 ≤ zA σ 0 74 i ∧ zA σ 0 74 i ≤ 255) ∧ (∀ i : Int, 0 ≤ i → i < 16 → 0 ≤ zA σ 0 75 i ∧ zA σ 0 75 i ≤ 65535) ∧ (∀ i : Int, 0 ≤ i → i < 30 → -2147483648 ≤ zA σ 0 79 i ∧ zA σ 0 79 i ≤ 2147483647) ∧ (0 ≤ zI σ 0 76 ∧ zI σ 0 76 ≤ 1) ∧ (0 ≤ zI σ 0 78 ∧ zI σ 0 78 ≤ N) ∧ (0 ≤ zI σ 0 80 ∧ zI σ 0 80 ≤ 65535) ∧ (0 ≤ zI σ 0 81 ∧ zI σ 0 81 ≤ 255) ∧ (0 ≤ zI σ 0 82 ∧ zI σ 0 82 ≤ 7) ∧ (0 ≤ zI σ 0 83 ∧ zI σ 0 83 ≤ 15) ∧ (0 ≤ zI σ 0 84 ∧ zI σ 0 84 ≤ 65535)
theorem MM.u74 {σ : ZS} {N i v : Int} (h : MM σ N) (hv : 0 ≤ v ∧ v ≤ 255) : MM (zsA σ 0 74 i v) N := ⟨rng_zu h.1 hv, h.2⟩
theorem MM.u75 {σ : ZS} {N i v : Int} (h : MM σ N) (hv : 0 ≤ v ∧ v ≤ 65535) : MM (zsA σ 0 75 i v) N := ⟨h.1, rng_zu h.2.1 hv, h.2.2⟩
theorem MM.u79 {σ : ZS} {N i v : Int} (h : MM σ N) (hv : -2147483648 ≤ v ∧ v ≤ 2147483647) : MM (zsA σ 0 79 i v) N := ⟨h.1, h.2.1, rng_zu h.2.2.1 hv, h.2.2.2⟩
theorem MM.i76 {σ : ZS} {N v : Int} (h : MM σ N) (hv : 0 ≤ v ∧ v ≤ 1) : MM (zsI σ 0 76 v) N := ⟨h.1, h.2.1, h.2.2.1, hv, h.2.2.2.2⟩
theorem MM.i77 {σ : ZS} {N v : Int} (h : MM σ N) : MM (zsI σ 0 77 v) N := h
theorem MM.i78 {σ : ZS} {N v : Int} (h : MM σ N) (hv : 0 ≤ v ∧ v ≤ N) : MM (zsI σ 0 78 v) N := ⟨h.1, h.2.1, h.2.2.1, h.2.2.2.1, hv, h.2.2.2.2.2⟩
theorem MM.i80 {σ : ZS} {N v : Int} (h : MM σ N) (hv : 0 ≤ v ∧ v ≤ 65535) : MM (zsI σ 0 80 v) N := ⟨h.1, h.2.1, h.2.2.1, h.2.2.2.1, h.2.2.2.2.1, hv, h.2.2.2.2.2.2⟩
theorem MM.i81 {σ : ZS} {N v : Int} (h : MM σ N) (hv : 0 ≤ v ∧ v ≤ 255) : MM (zsI σ 0 81 v) N := ⟨h.1, h.2.1, h.2.2.1, h.2.2.2.1, h.2.2.2.2.1, h.2.2.2.2.2.1, hv, h.2.2.2.2.2.2.2⟩
theorem MM.i82 {σ : ZS} {N v : Int} (h : MM σ N) (hv : 0 ≤ v ∧ v ≤ 7) : MM (zsI σ 0 82 v) N := ⟨h.1, h.2.1, h.2.2.1, h.2.2.2.1, h.2.2.2.2.1, h.2.2.2.2.2.1, h.2.2.2.2.2.2.1, hv, h.2.2.2.2.2.2.2.2⟩
theorem MM.i83 {σ : ZS} {N v : Int} (h : MM σ N) (hv : 0 ≤ v ∧ v ≤ 15) : MM (zsI σ 0 83 v) N := ⟨h.1, h.2.1, h.2.2.1, h.2.2.2.1, h.2.2.2.2.1, h.2.2.2.2.2.1, h.2.2.2.2.2.2.1, h.2.2.2.2.2.2.2.1, hv, h.2.2.2.2.2.2.2.2.2⟩
theorem MM.i84 {σ : ZS} {N v : Int} (h : MM σ N) (hv : 0 ≤ v ∧ v ≤ 65535) : MM (zsI σ 0 84 v) N := ⟨h.1, h.2.1, h.2.2.1, h.2.2.2.1, h.2.2.2.2.1, h.2.2.2.2.2.1, h.2.2.2.2.2.2.1, h.2.2.2.2.2.2.2.1, h.2.2.2.2.2.2.2.2.1, hv⟩
theorem MM.mo {σ : ZS} {N M : Int} (h : MM σ N) (hN : N ≤ M) : MM σ M := ⟨h.1, h.2.1, h.2.2.1, h.2.2.2.1, by have := h.2.2.2.2.1; omega, h.2.2.2.2.2⟩
def Go (σ : ZS) (N : Int) (τ : ZS) : Prop := MM τ N ∧ fr MF MR σ τ
theorem Go.rf {σ : ZS} {N : Int} (h : MM σ N) : Go σ N σ := ⟨h, fr.rf⟩
theorem Go.tr {σ τ υ : ZS} {N : Int} (h : Go σ N τ) (k : Go τ N υ) : Go σ N υ := ⟨k.1, h.2.tr k.2⟩
theorem Go.a75 {σ τ : ZS} {N i v : Int} (h : Go σ N τ) (hv : 0 ≤ v ∧ v ≤ 65535) : Go σ N (zsA τ 0 75 i v) := ⟨h.1.u75 hv, h.2.ta (by decide)⟩
theorem Go.a74 {σ τ : ZS} {N i v : Int} (h : Go σ N τ) (hv : 0 ≤ v ∧ v ≤ 255) : Go σ N (zsA τ 0 74 i v) := ⟨h.1.u74 hv, h.2.ta (by decide)⟩
theorem Go.j80 {σ τ : ZS} {N v : Int} (h : Go σ N τ) (hv : 0 ≤ v ∧ v ≤ 65535) : Go σ N (zsI τ 0 80 v) := ⟨h.1.i80 hv, h.2.ti (by decide)⟩
theorem MM.r {σ : ZS} {N i : Int} (h : MM σ N) (h0 : 0 ≤ i) (h1 : i < 16) : 0 ≤ zA σ 0 75 i ∧ zA σ 0 75 i ≤ 65535 := h.2.1 i h0 h1
theorem zor_bd (a b : Int) : -2147483648 ≤ zor a b ∧ zor a b ≤ 2147483647 := by
  unfold zor
  have h1 := Int32.le_toInt (Int32.ofInt a ||| Int32.ofInt b)
  have h2 := Int32.toInt_lt (Int32.ofInt a ||| Int32.ofInt b)
  omega
theorem zxor_bd (a b : Int) : -2147483648 ≤ zxor a b ∧ zxor a b ≤ 2147483647 := by
  unfold zxor
  have h1 := Int32.le_toInt (Int32.ofInt a ^^^ Int32.ofInt b)
  have h2 := Int32.toInt_lt (Int32.ofInt a ^^^ Int32.ofInt b)
  omega
theorem m_fetch {σ : ZS} {N : Int} {Q : Int → ZS → Prop} (h : MM σ N) (hQ : ∀ (x : Int) (τ : ZS), Go σ N τ → (0 ≤ x ∧ x ≤ 255) → Q x τ) : wpX11_fetch σ Q := by
  unfold wpX11_fetch wpX11_where
  exact ⟨by omega, hQ _ _ ((Go.rf h).j80 (by omega)) (h.1 _ (by omega) (by omega))⟩
theorem m_fetchTwo {σ : ZS} {N : Int} {Q : Int → ZS → Prop} (h : MM σ N) (hQ : ∀ (x : Int) (τ : ZS), Go σ N τ → (0 ≤ x ∧ x ≤ 65535) → Q x τ) : wpX11_fetchTwo σ Q := by
  unfold wpX11_fetchTwo
  refine m_fetch h (fun x τ g hx => m_fetch g.1 (fun y υ k hy => hQ _ _ (g.tr k) ?_))
  rw [zor_bytes (by omega) (by omega)]; omega
theorem m_fetchSigned {σ : ZS} {N : Int} {Q : Int → ZS → Prop} (h : MM σ N) (hQ : ∀ (x : Int) (τ : ZS), Go σ N τ → (-128 ≤ x ∧ x ≤ 127) → Q x τ) : wpX11_fetchSigned σ Q := by
  unfold wpX11_fetchSigned
  exact m_fetch h (fun x τ g hx => hQ _ _ g (by omega))
theorem m_get {σ : ZS} {N a b : Int} {Q : Int → ZS → Prop} (h : MM σ N) (hQ : ∀ x : Int, (0 ≤ x ∧ x ≤ 65535) → Q x σ) : wpX11_get a b σ Q := by
  unfold wpX11_get wpX11_where
  have h1 := h.1 ((16 * a + b % 65536) % 4096) (by omega) (by omega)
  have h2 := h.1 ((16 * a + (b + 1) % 65536) % 4096) (by omega) (by omega)
  refine ⟨by omega, by omega, hQ _ ?_⟩
  rw [zor_bytes (by omega) (by omega)]; omega
theorem m_store {σ : ZS} {N a b c : Int} {Q : ZS → Prop} (h : MM σ N) (hc : -2147483648 ≤ c ∧ c ≤ 2147483647) (hQ : ∀ τ : ZS, Go σ N τ → Q τ) : wpX11_store a b c σ Q := by
  unfold wpX11_store wpX11_where
  exact ⟨by omega, hc, by omega, hQ _ (((Go.rf h).a74 (by omega)).a74 (by omega))⟩
theorem m_push {σ : ZS} {N c : Int} {Q : ZS → Prop} (h : MM σ N) (hc : -2147483648 ≤ c ∧ c ≤ 2147483647) (hQ : ∀ τ : ZS, Go σ N τ → Q τ) : wpX11_push c σ Q := by
  unfold wpX11_push
  have g : Go σ N (zsA σ 0 75 4 ((zA σ 0 75 4 - 2) % 65536)) := (Go.rf h).a75 (by omega)
  exact m_store g.1 hc (fun τ k => hQ _ (g.tr k))
theorem m_pop {σ : ZS} {N : Int} {Q : Int → ZS → Prop} (h : MM σ N) (hQ : ∀ (x : Int) (τ : ZS), Go σ N τ → (0 ≤ x ∧ x ≤ 65535) → Q x τ) : wpX11_pop σ Q := by
  unfold wpX11_pop
  exact m_get h (fun x hx => hQ _ _ ((Go.rf h).a75 (by omega)) hx)
theorem m_flags {σ : ZS} {N a : Int} {Q : ZS → Prop} (h : MM σ N) (ha : -2147483648 ≤ a ∧ a ≤ 2147483647) (hQ : ∀ τ : ZS, Go σ N τ → Q τ) : wpX11_flags a σ Q := by
  unfold wpX11_flags wpX11_flags_19
  exact ⟨fun _ => ⟨by decide, ha, hQ _ (((Go.rf h).a75 (by decide)).a75 (by omega))⟩, fun _ => ⟨by decide, ha, hQ _ (((Go.rf h).a75 (by decide)).a75 (by omega))⟩⟩
theorem m_condition {σ : ZS} {N a : Int} {Q : Int → ZS → Prop} (h : MM σ N) (ha : -2147483648 ≤ a ∧ a ≤ 2147483647) (hQ : ∀ x : Int, (0 ≤ x ∧ x ≤ 1) → Q x σ) : wpX11_condition a σ Q := by
  have f37 : ∀ s0 : Int, (0 ≤ s0 ∧ s0 ≤ 1) → wpX11_condition_37 a s0 σ Q := by
    intro s0 h0
    unfold wpX11_condition_37 wpX11_condition_57
    exact ⟨fun _ => ⟨by omega, fun _ => ⟨by decide, hQ _ (by decide)⟩, fun _ => ⟨by decide, hQ _ (by decide)⟩⟩, fun _ => ⟨h0, hQ _ h0⟩⟩
  have f28 : ∀ s1 : Int, (0 ≤ s1 ∧ s1 < 16) → wpX11_condition_28 a s1 σ Q := by
    intro s1 h1
    have hr := h.r h1.1 h1.2
    unfold wpX11_condition_28
    exact ⟨h1, by omega, fun _ => f37 0 (by decide), fun _ => f37 1 (by decide)⟩
  unfold wpX11_condition
  exact ⟨ha, fun _ => ⟨fun _ => f28 15 (by decide), fun _ => f28 14 (by decide)⟩, fun _ => f28 13 (by decide)⟩
theorem m_operation {σ : ZS} {a : Int} {Q : Int → ZS → Prop} (ha : -2147483648 ≤ a ∧ a ≤ 2147483647) (hQ : ∀ x : Int, (0 ≤ x ∧ x ≤ 1) → Q x σ) : wpX11_operation a σ Q := by
  unfold wpX11_operation wpX11_operation_20 wpX11_operation_24 wpX11_operation_25
  have y : ((0 : Int) ≤ 1 ∧ (1 : Int) ≤ 1) ∧ Q 1 σ := ⟨by decide, hQ _ (by decide)⟩
  have n : ((0 : Int) ≤ 0 ∧ (0 : Int) ≤ 1) ∧ Q 0 σ := ⟨by decide, hQ _ (by decide)⟩
  exact ⟨ha, fun _ => y, fun _ => ⟨fun _ => y, fun _ => ⟨fun _ => n, fun _ => ⟨fun _ => n, fun _ => y⟩⟩⟩⟩
theorem m_hasForm {σ : ZS} {a : Int} {Q : Int → ZS → Prop} (ha : 0 ≤ a ∧ a ≤ 255) (hQ : ∀ x : Int, (0 ≤ x ∧ x ≤ 1) → Q x σ) : wpX11_hasForm a σ Q := by
  have y : wpX11_hasForm_93 σ Q := ⟨by decide, hQ _ (by decide)⟩
  have n : wpX11_hasForm_98 0 σ Q := ⟨by decide, hQ _ (by decide)⟩
  have n2 : wpX11_hasForm_35 σ Q := ⟨by decide, hQ _ (by decide)⟩
  have f22 : wpX11_hasForm_22 a σ Q := by
    unfold wpX11_hasForm_22
    exact ⟨by omega, m_operation (by omega) (fun x hx => ⟨by omega, fun _ => n2, fun _ => ⟨by decide, hQ _ (by decide)⟩⟩)⟩
  unfold wpX11_hasForm
  exact ⟨by omega, fun _ => ⟨fun _ => y, fun _ => ⟨fun _ => y, fun _ => ⟨fun _ => y, fun _ => ⟨fun _ => y, fun _ => ⟨fun _ => y, fun _ => ⟨fun _ => y, fun _ => ⟨fun _ => y, fun _ => ⟨fun _ => n, fun _ => y⟩⟩⟩⟩⟩⟩⟩⟩, fun _ => ⟨by omega, fun _ => f22, fun _ => ⟨fun _ => n2, fun _ => f22⟩⟩⟩
theorem m_readForm {σ : ZS} {N : Int} {Q : ZS → Prop} (h : MM σ N) (hQ : ∀ τ : ZS, Go σ N τ → Q τ) : wpX11_readForm σ Q := by
  have f80 : ∀ (a b c : Int) (τ : ZS), Go σ N τ → (0 ≤ a ∧ a ≤ 3) → (0 ≤ b ∧ b ≤ 7) → wpX11_readForm_80 a b c τ Q := by
    intro a b c τ g ha hb
    have fin : ∀ (v d : Int), (0 ≤ v ∧ v ≤ 65535) → (0 ≤ d ∧ d ≤ 15) → Q (zsI (zsI τ 0 84 v) 0 83 d) := fun v d hv hd => hQ _ ⟨(g.1.i84 hv).i83 hd, (g.2.ti (by decide)).ti (by decide)⟩
    have f188 : ∀ d : Int, wpX11_readForm_188 a b c d τ Q := by
      intro d
      unfold wpX11_readForm_188 wpX11_readForm_221 wpX11_readForm_226 wpX11_readForm_228
      exact ⟨by omega, fun _ => fin _ _ (by omega) (by decide), fun _ => ⟨fun _ => fin _ _ (by omega) (by decide), fun _ => ⟨fun _ => fin _ _ (by omega) (by decide), fun _ => ⟨by omega, fun _ => fin _ _ (by omega) (by decide), fun _ => fin _ _ (by omega) (by decide)⟩⟩⟩⟩
    have f161 : ∀ d : Int, wpX11_readForm_161 a b c d τ Q := by
      intro d
      unfold wpX11_readForm_161 wpX11_readForm_176
      exact ⟨by omega, fun _ => f188 _, fun _ => ⟨fun _ => f188 _, fun _ => ⟨fun _ => f188 _, fun _ => f188 _⟩⟩⟩
    have f135 : ∀ d : Int, wpX11_readForm_135 a b c d τ Q := by
      intro d
      unfold wpX11_readForm_135 wpX11_readForm_149
      exact ⟨by omega, fun _ => f161 _, fun _ => ⟨fun _ => f161 _, fun _ => ⟨fun _ => f161 _, fun _ => f161 _⟩⟩⟩
    have f107 : ∀ d : Int, wpX11_readForm_107 a b c d τ Q := by
      intro d
      unfold wpX11_readForm_107 wpX11_readForm_127
      exact ⟨by omega, fun _ => f135 _, fun _ => ⟨fun _ => f135 _, fun _ => ⟨fun _ => f135 _, fun _ => ⟨by omega, fun _ => f135 _, fun _ => f135 _⟩⟩⟩⟩
    unfold wpX11_readForm_80 wpX11_readForm_99
    exact ⟨by omega, fun _ => f107 _, fun _ => ⟨fun _ => f107 _, fun _ => ⟨fun _ => f107 _, fun _ => f107 _⟩⟩⟩
  unfold wpX11_readForm
  refine m_fetch h (fun x τ g hx => ?_)
  have g2 : Go σ N (zsI (zsI τ 0 81 x) 0 82 ((x / 8) % 8)) := ⟨(g.1.i81 hx).i82 (by omega), (g.2.ti (by decide)).ti (by decide)⟩
  refine ⟨by omega, fun _ => ⟨fun _ => ⟨fun _ => ?_, fun _ => ?_⟩, fun _ => ⟨fun _ => f80 _ _ _ _ g2 (by omega) (by omega), fun _ => ?_⟩⟩, fun _ => hQ _ g2⟩
  · exact m_fetchTwo g2.1 (fun y υ k hy => f80 _ _ _ _ (g2.tr k) (by omega) (by omega))
  · exact m_fetchSigned g2.1 (fun y υ k hy => f80 _ _ _ _ (g2.tr k) (by omega) (by omega))
  · exact m_fetchTwo g2.1 (fun y υ k hy => f80 _ _ _ _ (g2.tr k) (by omega) (by omega))
theorem m_formGet {σ : ZS} {N : Int} {Q : Int → ZS → Prop} (h : MM σ N) (hQ : ∀ x : Int, (0 ≤ x ∧ x ≤ 65535) → Q x σ) : wpX11_formGet σ Q := by
  obtain ⟨-, -, -, -, -, -, h81, -, h83, -⟩ := id h
  unfold wpX11_formGet wpX11_formGet_43
  exact ⟨by omega, fun _ => ⟨by omega, m_get h hQ⟩, fun _ => hQ _ (h.r (by omega) (by omega))⟩
theorem m_formSet {σ : ZS} {N a : Int} {Q : ZS → Prop} (h : MM σ N) (ha : -2147483648 ≤ a ∧ a ≤ 2147483647) (hQ : ∀ τ : ZS, Go σ N τ → Q τ) : wpX11_formSet a σ Q := by
  obtain ⟨-, -, -, -, -, -, h81, -, h83, -⟩ := id h
  unfold wpX11_formSet wpX11_formSet_49
  exact ⟨by omega, fun _ => ⟨by omega, m_store h ha hQ⟩, fun _ => hQ _ ((Go.rf h).a75 (by omega))⟩
theorem m_shift {σ : ZS} {N : Int} {Q : Int → ZS → Prop} (h : MM σ N) (hQ : ∀ (x : Int) (τ : ZS), Go σ N τ → (0 ≤ x ∧ x ≤ 3) → Q x τ) : wpX11_shift σ Q := by
  obtain ⟨-, -, -, -, -, -, -, h82, -, -⟩ := id h
  have f65 : ∀ a b : Int, (0 ≤ a ∧ a ≤ 200000) → (0 ≤ b ∧ b ≤ 1) → wpX11_shift_65 a b 13 σ Q := by
    intro a b ha hb
    unfold wpX11_shift_65
    have g : Go σ N (zsA σ 0 75 13 b) := (Go.rf h).a75 (by omega)
    exact ⟨by decide, m_flags g.1 (by omega) (fun τ k => m_formSet k.1 (by omega) (fun υ l => hQ 0 _ ((g.tr k).tr l) (by decide)))⟩
  have f40 : ∀ x y : Int, (0 ≤ x ∧ x ≤ 65535) → (0 ≤ y ∧ y ≤ 200000) → wpX11_shift_40 x y σ Q := by
    intro x y hx hy
    unfold wpX11_shift_40
    exact ⟨by omega, fun _ => f65 _ _ hy (by omega), fun _ => ⟨by omega, f65 _ _ hy (by omega)⟩⟩
  have f18 : wpX11_shift_18 σ Q := by
    unfold wpX11_shift_18
    exact m_formGet h (fun x hx => ⟨by omega, fun _ => ⟨by omega, f40 _ _ hx (by omega)⟩, fun _ => f40 _ _ hx (by omega)⟩)
  unfold wpX11_shift
  exact ⟨by omega, fun _ => f18, fun _ => ⟨fun _ => f18, fun _ => hQ 2 _ (Go.rf h) (by decide)⟩⟩
theorem m_reckoned {σ : ZS} {N a b c : Int} {Q : Int → ZS → Prop} (h : MM σ N) (ha : -2147483648 ≤ a ∧ a ≤ 2147483647) (hb : 0 ≤ b ∧ b ≤ 65535) (hc : 0 ≤ c ∧ c ≤ 65535) (hQ : ∀ (x : Int) (τ : ZS), Go σ N τ → (0 ≤ x ∧ x ≤ 65535) → Q x τ) : wpX11_reckoned a b c σ Q := by
  have f81 : ∀ v : Int, (-2147483648 ≤ v ∧ v ≤ 2147483647) → wpX11_reckoned_81 v σ Q := by
    intro v hv
    unfold wpX11_reckoned_81
    have g : Go σ N (zsA σ 0 75 13 ((v / 65536) % 2)) := (Go.rf h).a75 (by omega)
    exact ⟨hv, m_flags g.1 hv (fun τ k => hQ _ _ (g.tr k) (by omega))⟩
  have f76 : wpX11_reckoned_76 b c σ Q := f81 _ (by omega)
  unfold wpX11_reckoned
  exact ⟨ha, fun _ => f81 _ (by omega), fun _ => ⟨fun _ => f81 _ (zor_bd _ _), fun _ => ⟨fun _ => f76, fun _ => ⟨fun _ => f76, fun _ => ⟨fun _ => f81 _ (zand_bd _ _), fun _ => ⟨fun _ => f76, fun _ => ⟨fun _ => f81 _ (zxor_bd _ _), fun _ => f76⟩⟩⟩⟩⟩⟩⟩
theorem m_plain {σ : ZS} {N a : Int} {Q : Int → ZS → Prop} (h : MM σ N) (ha : 0 ≤ a ∧ a ≤ 255) (hQ : ∀ (x : Int) (τ : ZS), Go σ N τ → (0 ≤ x ∧ x ≤ 3) → Q x τ) : wpX11_plain a σ Q := by
  have hr := h.r (i := a % 8) (by omega) (by omega)
  have f52 : ∀ d : Int, wpX11_plain_52 (a % 8) d (zA σ 0 75 (a % 8)) (a % 8) σ Q := by
    intro d
    unfold wpX11_plain_52
    have g : Go σ N (zsA σ 0 75 (a % 8) ((zA σ 0 75 (a % 8) + d) % 65536)) := (Go.rf h).a75 (by omega)
    have hr2 := g.1.r (i := a % 8) (by omega) (by omega)
    exact ⟨by omega, by omega, m_flags g.1 (by omega) (fun τ k => hQ 0 _ (g.tr k) (by decide))⟩
  unfold wpX11_plain wpX11_plain_99
  exact ⟨by omega, fun _ => ⟨fun _ => ⟨fun _ => m_pop h (fun x τ g hx => hQ 0 _ (g.a75 hx) (by decide)), fun _ => m_push h (by omega) (fun τ g => hQ 0 _ g (by decide))⟩, fun _ => ⟨fun _ => f52 _, fun _ => f52 _⟩⟩, fun _ => m_fetchTwo h (fun x τ g hx => hQ 0 _ (g.a75 hx) (by decide))⟩
/-! P: the reference's machine steps and runs -/
theorem zlor_wide {w c : Int} (hw : 0 ≤ w ∧ w ≤ 65535) (hc : 0 ≤ c ∧ c ≤ 65535) : zlor (w * 65536) c = w * 65536 + c := by
  unfold zlor
  have e1 : Int64.ofInt (w * 65536) = Int64.ofNat (w.toNat * 65536) := by
    apply Int64.toInt_inj.mp
    rw [z_tl (by omega), Int64.toInt_ofNat_of_lt (by omega)]
    omega
  have e2 : Int64.ofInt c = Int64.ofNat c.toNat := by
    apply Int64.toInt_inj.mp
    rw [z_tl (by omega), Int64.toInt_ofNat_of_lt (by omega)]
    omega
  have e3 : Int64.ofNat (w.toNat * 65536) ||| Int64.ofNat c.toNat = Int64.ofNat (w.toNat * 65536 + c.toNat) := by
    apply Int64.toBitVec_inj.mp
    apply BitVec.eq_of_toNat_eq
    rw [Int64.toBitVec_or, BitVec.toNat_or]
    show (BitVec.ofNat 64 _).toNat ||| (BitVec.ofNat 64 _).toNat = (BitVec.ofNat 64 _).toNat
    rw [BitVec.toNat_ofNat, BitVec.toNat_ofNat, BitVec.toNat_ofNat, Nat.mod_eq_of_lt (by omega), Nat.mod_eq_of_lt (by omega), Nat.mod_eq_of_lt (by omega)]
    have := Nat.shiftLeft_add_eq_or_of_lt (b := c.toNat) (i := 16) (by omega) w.toNat
    rw [Nat.shiftLeft_eq] at this
    exact this.symm
  rw [e1, e2, e3, Int64.toInt_ofNat_of_lt (by omega)]
  omega
theorem m_group {σ : ZS} {N : Int} {Q : Int → ZS → Prop} (h : MM σ N) (hQ : ∀ (x : Int) (τ : ZS), Go σ N τ → (0 ≤ x ∧ x ≤ 3) → Q x τ) : wpX11_group σ Q := by
  obtain ⟨-, -, -, -, -, -, -, h82, -, -⟩ := id h
  have h0 := h.r (i := 0) (by decide) (by decide)
  have h2 := h.r (i := 2) (by decide) (by decide)
  have f28 : ∀ x b : Int, (0 ≤ x ∧ x ≤ 65535) → (0 ≤ b ∧ b ≤ 1) → wpX11_group_28 x b 13 σ Q := by
    intro x b hx hb
    unfold wpX11_group_28
    have g : Go σ N (zsA σ 0 75 13 b) := (Go.rf h).a75 (by omega)
    exact ⟨by decide, m_flags g.1 (by omega) (fun τ k => m_formSet k.1 (by omega) (fun υ l => hQ 0 _ ((g.tr k).tr l) (by decide)))⟩
  unfold wpX11_group wpX11_group_157
  refine m_formGet h (fun x hx => ?_)
  refine ⟨by omega, fun _ => ⟨fun _ => ⟨fun _ => ⟨by omega, by omega, by omega, fun _ => hQ 1 _ (Go.rf h) (by decide), fun nz => ?_⟩, fun _ => hQ 2 _ (Go.rf h) (by decide)⟩, fun _ => ?_⟩, fun _ => ⟨by omega, fun _ => f28 _ _ hx (by decide), fun _ => f28 _ _ hx (by decide)⟩⟩
  · rw [zlor_wide h2 h0]
    obtain ⟨X, hX⟩ : ∃ X, X = zA σ 0 75 2 * 65536 + zA σ 0 75 0 := ⟨_, rfl⟩
    rw [← hX]
    have hXb : 0 ≤ X ∧ X ≤ 4294967295 := by omega
    have q0 : 0 ≤ X / x := Int.ediv_nonneg hXb.1 hx.1
    have q1 : X / x ≤ X := Int.ediv_le_self x hXb.1
    have r0 : 0 ≤ X % x := Int.emod_nonneg X (by omega)
    have r1 : X % x < x := Int.emod_lt_of_pos X (by omega)
    exact ⟨by omega, by omega, by omega, fun q => hQ 0 _ (((Go.rf h).a75 ⟨q0, q⟩).a75 (by omega)) (by decide), fun _ => hQ 1 _ (Go.rf h) (by decide)⟩
  · obtain ⟨τ, hτ⟩ : ∃ τ, τ = zsA (zsA σ 0 75 0 ((zA σ 0 75 0 * x) % 65536)) 0 75 2 ((zlshr (zA σ 0 75 0 * x) 16) % 65536) := ⟨_, rfl⟩
    rw [← hτ]
    have g : Go σ N τ := by rw [hτ]; exact ((Go.rf h).a75 (by omega)).a75 (by omega)
    have ht := g.1.r (i := 2) (by decide) (by decide)
    unfold wpX11_group_109
    exact ⟨by omega, by omega, by omega, fun _ => ⟨by decide, hQ 0 _ (g.a75 (by decide)) (by decide)⟩, fun _ => ⟨by decide, hQ 0 _ (g.a75 (by decide)) (by decide)⟩⟩
theorem m_formed {σ : ZS} {N a : Int} {Q : Int → ZS → Prop} (h : MM σ N) (ha : 0 ≤ a ∧ a ≤ 255) (hQ : ∀ (x : Int) (τ : ZS), Go σ N τ → (0 ≤ x ∧ x ≤ 3) → Q x τ) : wpX11_formed a σ Q := by
  have f63 : ∀ (op x y : Int) (τ : ZS), Go σ N τ → (0 ≤ op ∧ op ≤ 31) → (0 ≤ x ∧ x ≤ 65535) → (0 ≤ y ∧ y ≤ 65535) → wpX11_formed_63 a op x y τ Q := by
    intro op x y τ g ho hx hy
    unfold wpX11_formed_63 wpX11_formed_111
    refine m_reckoned g.1 (by omega) hx hy (fun z υ k hz => ?_)
    obtain ⟨-, -, -, -, -, -, -, u82, -, -⟩ := id k.1
    exact ⟨by omega, fun _ => ⟨by omega, fun _ => m_formSet k.1 (by omega) (fun ω l => hQ 0 _ ((g.tr k).tr l) (by decide)), fun _ => ⟨by omega, hQ 0 _ ((g.tr k).a75 hz) (by decide)⟩⟩, fun _ => hQ 0 _ (g.tr k) (by decide)⟩
  have f38 : ∀ (op x : Int) (τ : ZS), Go σ N τ → (0 ≤ op ∧ op ≤ 31) → (0 ≤ x ∧ x ≤ 65535) → wpX11_formed_38 a op x τ Q := by
    intro op x τ g ho hx
    obtain ⟨-, -, -, -, -, -, -, t82, -, -⟩ := id g.1
    unfold wpX11_formed_38
    exact ⟨by omega, fun _ => ⟨by omega, f63 _ _ _ _ g ho hx (g.1.r (by omega) (by omega))⟩, fun _ => m_formGet g.1 (fun y hy => f63 _ _ _ _ g ho hx hy)⟩
  unfold wpX11_formed
  refine m_readForm h (fun τ g => ?_)
  obtain ⟨-, -, -, -, -, -, -, t82, -, -⟩ := id g.1
  have hr := g.1.r (i := zI τ 0 82) (by omega) (by omega)
  refine ⟨by omega, fun _ => ⟨fun _ => ?_, fun _ => ⟨fun _ => ⟨by omega, m_formSet g.1 (by omega) (fun υ k => hQ 0 _ (g.tr k) (by decide))⟩, fun _ => ⟨fun _ => m_formGet g.1 (fun x hx => ⟨by omega, hQ 0 _ (g.a75 hx) (by decide)⟩), fun _ => ⟨fun _ => ⟨by omega, fun _ => ⟨by omega, ?_⟩, fun _ => hQ 2 _ g (by decide)⟩, fun _ => ⟨fun _ => ⟨by omega, fun _ => hQ 2 _ g (by decide), fun _ => ⟨fun _ => m_formGet g.1 (fun x hx => ⟨by omega, hQ 0 _ (g.a75 hx) (by decide)⟩), fun _ => hQ 2 _ g (by decide)⟩⟩, fun _ => ⟨fun _ => ⟨by omega, fun _ => m_fetchTwo g.1 (fun x υ k hx => m_formSet k.1 (by omega) (fun ω l => hQ 0 _ ((g.tr k).tr l) (by decide))), fun _ => hQ 2 _ g (by decide)⟩, fun _ => ⟨fun _ => m_group g.1 (fun x υ k hx => hQ _ _ (g.tr k) hx), fun _ => m_shift g.1 (fun x υ k hx => hQ _ _ (g.tr k) hx)⟩⟩⟩⟩⟩⟩⟩, fun _ => ⟨by omega, fun _ => m_formGet g.1 (fun x hx => f38 _ _ _ g (by omega) hx), fun _ => ⟨by omega, f38 _ _ _ g (by omega) hr⟩⟩⟩
  · refine m_operation (by omega) (fun x hx => ⟨by omega, fun _ => ?_, fun _ => hQ 2 _ g (by decide)⟩)
    refine m_fetchTwo g.1 (fun y υ k hy => ?_)
    obtain ⟨-, -, -, -, -, -, -, u82, -, -⟩ := id k.1
    refine m_formGet k.1 (fun z hz => m_reckoned k.1 (by omega) hz hy (fun w ω l hw => ?_))
    obtain ⟨-, -, -, -, -, -, -, w82, -, -⟩ := id l.1
    unfold wpX11_formed_219
    exact ⟨by omega, fun _ => hQ 0 _ ((g.tr k).tr l) (by decide), fun _ => m_formSet l.1 (by omega) (fun ψ m => hQ 0 _ (((g.tr k).tr l).tr m) (by decide))⟩
  · have h8 := g.1.r (i := 8 + zI τ 0 82) (by omega) (by omega)
    exact m_formSet g.1 (by omega) (fun υ k => hQ 0 _ (g.tr k) (by decide))
theorem m_control {σ : ZS} {N a : Int} {Q : Int → ZS → Prop} (h : MM σ N) (hN : N ≤ 1000000) (ha : 0 ≤ a ∧ a ≤ 255) (hQ : ∀ (x : Int) (τ : ZS), Go σ (N + 1) τ → (0 ≤ x ∧ x ≤ 3) → Q x τ) : wpX11_control a σ Q := by
  have q : ∀ (x : Int) (τ : ZS), Go σ N τ → (0 ≤ x ∧ x ≤ 3) → Q x τ := fun x τ g hx => hQ x τ ⟨g.1.mo (by omega), g.2⟩ hx
  have f124 : wpX11_control_124 a σ Q := by
    unfold wpX11_control_124 wpX11_control_151
    exact m_fetchSigned h (fun x τ g hx => m_condition g.1 (by omega) (fun y hy => ⟨by omega, fun _ => q 0 _ g (by decide), fun _ => q 0 _ (g.j80 (by omega)) (by decide)⟩))
  have f222 : wpX11_control_222 a σ Q := by
    unfold wpX11_control_222 wpX11_control_242
    refine m_fetchTwo h (fun x τ g hx => ⟨by omega, fun _ => q 0 _ (g.j80 (by omega)) (by decide), fun _ => ?_⟩)
    obtain ⟨-, -, -, -, -, t80, -, -, -, -⟩ := id g.1
    exact m_push g.1 (by omega) (fun υ k => q 0 _ ((g.tr k).j80 (by omega)) (by decide))
  unfold wpX11_control
  refine ⟨by omega, fun _ => f124, fun _ => ⟨fun _ => f124, fun _ => ⟨fun _ => f124, fun _ => ⟨fun _ => f124, fun _ => ⟨fun _ => f124, fun _ => ⟨fun _ => f124, fun _ => ⟨fun _ => ?_, fun _ => ⟨fun _ => ?_, fun _ => ⟨fun _ => ?_, fun _ => ⟨fun _ => ?_, fun _ => ⟨fun _ => ?_, fun _ => ⟨fun _ => f222, fun _ => ⟨fun _ => f222, fun _ => ⟨fun _ => ?_, fun _ => ⟨fun _ => q 2 _ (Go.rf h) (by decide), fun _ => q 3 _ (Go.rf h) (by decide)⟩⟩⟩⟩⟩⟩⟩⟩⟩⟩⟩⟩⟩⟩⟩
  · refine m_fetchTwo h (fun x τ g hx => m_fetchTwo g.1 (fun y υ k hy => ?_))
    have hr := k.1.r (i := 9) (by decide) (by decide)
    refine m_push k.1 (by omega) (fun ω l => ?_)
    obtain ⟨-, -, -, -, -, w80, -, -, -, -⟩ := id l.1
    exact m_push l.1 (by omega) (fun ψ m => q 0 _ (((((g.tr k).tr l).tr m).j80 hx).a75 hy) (by decide))
  · exact m_pop h (fun x τ g hx => q 0 _ (g.j80 hx) (by decide))
  · refine m_pop h (fun x τ g hx => ?_)
    have g2 := g.j80 hx
    exact m_pop g2.1 (fun y υ k hy => q 0 _ ((g2.tr k).a75 hy) (by decide))
  · refine m_fetch h (fun x τ g hx => ?_)
    obtain ⟨-, -, -, -, t78, -⟩ := id g.1
    have fin : ∀ υ : ZS, Go σ N υ → zI υ 0 78 = zI τ 0 78 → wpX11_control_367 υ Q := by
      intro υ k e
      unfold wpX11_control_367
      exact hQ 0 _ ⟨(k.1.mo (M := N + 1) (by omega)).i78 (by rw [e]; omega), k.2.ti (by decide)⟩ (by decide)
    exact ⟨by omega, fun _ => fin τ g rfl, fun _ => ⟨by omega, fin _ ⟨g.1.u79 (zor_bd _ _), g.2.ta (by decide)⟩ rfl⟩⟩
  · refine m_fetchSigned h (fun x τ g hx => ?_)
    obtain ⟨υ, hυ⟩ : ∃ υ, υ = zsA τ 0 75 1 ((zA τ 0 75 1 - 1) % 65536) := ⟨_, rfl⟩
    have k : Go σ N υ := by rw [hυ]; exact g.a75 (by omega)
    have hr := k.1.r (i := 1) (by decide) (by decide)
    rw [← hυ]
    unfold wpX11_control_199
    exact ⟨by omega, fun _ => q 0 _ k (by decide), fun _ => q 0 _ (k.j80 (by omega)) (by decide)⟩
  · exact m_fetchSigned h (fun x τ g hx => q 0 _ (g.j80 (by omega)) (by decide))
theorem m_step {σ : ZS} {N : Int} {Q : Int → ZS → Prop} (h : MM σ N) (hN : N ≤ 1000000) (hQ : ∀ (x : Int) (τ : ZS), Go σ (N + 1) τ → (0 ≤ x ∧ x ≤ 3) → Q x τ) : wpX11_step σ Q := by
  have f151 : ∀ (x : Int) (τ : ZS), Go σ (N + 1) τ → (0 ≤ x ∧ x ≤ 3) → wpX11_step_151 x τ Q := by
    intro x τ g hx
    obtain ⟨-, -, -, -, -, t80, -⟩ := id g.1
    unfold wpX11_step_151 wpX11_step_161
    exact ⟨by omega, fun _ => hQ _ _ g hx, fun _ => ⟨fun _ => hQ _ _ ⟨(g.a75 t80).1, (g.a75 (i := 12) t80).2.ti (by decide)⟩ hx, fun _ => hQ _ _ g hx⟩⟩
  have up : ∀ τ : ZS, Go σ N τ → Go σ (N + 1) τ := fun τ g => ⟨g.1.mo (by omega), g.2⟩
  unfold wpX11_step
  have g0 : Go σ N (zsI σ 0 80 (zA σ 0 75 12)) := (Go.rf h).j80 (h.r (by decide) (by decide))
  refine m_fetch g0.1 (fun c τ k hc => ?_)
  have g := g0.tr k
  have f58 : wpX11_step_58 c τ Q := by
    unfold wpX11_step_58
    exact m_plain g.1 hc (fun x υ l hx => f151 _ _ (up _ (g.tr l)) hx)
  have f145 : wpX11_step_145 c τ Q := by
    unfold wpX11_step_145
    exact m_control g.1 hN hc (fun x υ l hx => f151 _ _ ⟨l.1, g.2.tr l.2⟩ hx)
  have f103 : wpX11_step_103 c τ Q := by
    unfold wpX11_step_103
    exact ⟨by omega, fun _ => f145, fun _ => ⟨by omega, fun _ => f145, fun _ => ⟨fun _ => f145, fun _ => m_pop g.1 (fun x υ l hx => ⟨by omega, f151 _ _ (up _ ((g.tr l).a75 hx)) (by decide)⟩)⟩⟩⟩
  have f67 : wpX11_step_67 c τ Q := by
    unfold wpX11_step_67
    refine ⟨by omega, fun _ => f103, fun _ => ⟨by omega, fun _ => f103, fun _ => ⟨by omega, ?_⟩⟩⟩
    have hr := g.1.r (i := 8 + c / 8) (by omega) (by omega)
    exact m_push g.1 (by omega) (fun υ l => f151 _ _ (up _ (g.tr l)) (by decide))
  have f44 : wpX11_step_44 c τ Q := by
    unfold wpX11_step_44
    exact ⟨by omega, fun _ => f67, fun _ => ⟨fun _ => f67, fun _ => f58⟩⟩
  refine m_hasForm hc (fun x hx => ⟨by omega, fun _ => ⟨by omega, fun _ => f44, fun _ => ⟨fun _ => f58, fun _ => f44⟩⟩, fun _ => ?_⟩)
  exact m_formed g.1 hc (fun y υ l hy => f151 _ _ (up _ (g.tr l)) hy)
abbrev RF : List Nat := [0, 76, 77, 78, 80, 81, 82, 83, 84]
theorem s_run {σ : ZS} {N a : Int} {Q : Int → ZS → Prop} (h : MM σ N) (hN : N ≤ 900000) (ha : -2147483648 ≤ a ∧ a ≤ 2147483647) (hN0 : 0 ≤ N) (hQ : ∀ (x : Int) (τ : ZS), MM τ (N + 400) → fr RF MR σ τ → (0 ≤ x ∧ x ≤ 3) → Q x τ) : wpX11_run a σ Q := by
  have h0 : MM (zsI σ 0 0 0) N := h
  have hf0 : fr RF MR σ (zsI σ 0 0 0) := fr.i (by decide)
  have bad : ∀ r : Int, wpX11_raise r (zsI σ 0 0 0) (fun (x9 : Int) (σ10 : ZS) => Q x9 σ10) := by
    intro r
    have hm : MM (zsI (zsI σ 0 0 0) 0 0 r) N := h
    exact hQ 0 _ (hm.mo (by omega)) (hf0.ti (by decide)) (by decide)
  obtain ⟨-, -, -, h76, -⟩ := id h
  unfold wpX11_run
  refine ⟨ha, fun _ => bad 1, fun _ => ⟨fun _ => ⟨by omega, fun _ => ?_, fun _ => bad 2⟩, fun _ => bad 1⟩⟩
  unfold wpX11_run_38
  refine lfp1_ind (fun v _ => (a - v).toNat) (fun v τ => (0 ≤ v ∧ v ≤ a) ∧ MM τ (N + v) ∧ fr RF MR σ τ) ?_ ⟨by omega, by rw [Int.add_zero]; exact h0, hf0⟩
  intro P v τ ⟨hv, hm, hf⟩ ih
  show wpbX11_run_38 P a v τ Q
  unfold wpbX11_run_38 wpX11_run_70
  refine ⟨by omega, by omega, fun _ => hQ 3 _ (hm.mo (by omega)) hf (by decide), fun nv => ?_⟩
  refine m_step hm (by omega) (fun x υ g hx => ?_)
  have hfu : fr RF MR σ υ := hf.tr (g.2.up (by decide) (by decide))
  have hmu : MM υ (N + 400) := g.1.mo (by omega)
  refine ⟨by omega, fun _ => ⟨fun _ => hQ _ _ (hmu.i76 (by decide)) (hfu.ti (by decide)) hx, fun _ => hQ _ _ (hmu.i76 (by decide)) (hfu.ti (by decide)) (by decide)⟩, fun _ => ih _ _ ⟨by omega, ?_, hfu⟩ (by show (a - (v + 1)).toNat < (a - v).toNat; omega)⟩
  rw [← Int.add_assoc]; exact g.1
/-! P: the reference loads, and its small methods -/
abbrev LF : List Nat := [0, 76, 77, 78]
abbrev LR : List Nat := [74, 75]
theorem s_load {σ : ZS} {N a : Int} {Q : Int → ZS → Prop} (hI : IG σ) (h : MM σ N) (hN : 0 ≤ N) (ha : -2147483648 ≤ a ∧ a ≤ 2147483647) (hQ : ∀ (x : Int) (τ : ZS), MM τ N → fr LF LR σ τ → (0 ≤ x ∧ x ≤ 65535) → Q x τ) : wpX11_load a σ Q := by
  have hf0 : fr LF LR σ (zsI σ 0 0 0) := fr.i (by decide)
  have bad : ∀ r : Int, wpX11_raise r (zsI σ 0 0 0) (fun (x9 : Int) (σ10 : ZS) => Q x9 σ10) := by
    intro r
    have hm : MM (zsI (zsI σ 0 0 0) 0 0 r) N := h
    exact hQ 0 _ hm (hf0.ti (by decide)) (by decide)
  obtain ⟨hIM, i62, i64, i60, i65, i66⟩ := hI
  unfold wpX11_load
  refine ⟨ha, fun _ => bad 1, fun na => ⟨fun la => ⟨by omega, fun _ => ?_, fun _ => bad 2⟩, fun _ => bad 1⟩⟩
  have f191 : ∀ τ : ZS, MM τ N → fr LF LR σ τ → wpX11_load_191 a 0 τ Q := by
    intro τ0 h0 k0
    unfold wpX11_load_191
    refine lfp1_ind (fun v _ => (16 - v).toNat) (fun v τ => (0 ≤ v ∧ v ≤ 16) ∧ MM τ N ∧ fr LF LR σ τ) ?_ ⟨by omega, h0, k0⟩
    intro P v τ ⟨hv, hm, hf⟩ ih
    show wpbX11_load_191 P a v τ Q
    unfold wpbX11_load_191
    have j66 : zI τ 0 66 = zI σ 0 66 := hf.1 66 (by decide)
    have j65 : zI τ 0 65 = zI σ 0 65 := hf.1 65 (by decide)
    refine ⟨by omega, fun _ => hQ _ _ ?_ ?_ (by omega), fun _ => ⟨by omega, ih _ _ ⟨by omega, hm.u75 (by decide), hf.ta (by decide)⟩ (by show (16 - (v + 1)).toNat < (16 - v).toNat; omega)⟩⟩
    · have h1 := ((((hm.u75 (i := 8) (v := a) (by omega)).u75 (i := 10) (v := a) (by omega)).u75 (i := 11) (v := a) (by omega)).u75 (i := 9) (v := (a + zI τ 0 65) % 65536) (by omega)).u75 (i := 12) (v := zI τ 0 66) (by omega)
      exact ((h1.i76 (by decide)).i77).i78 ⟨by decide, hN⟩
    · exact (((((((hf.ta (by decide)).ta (by decide)).ta (by decide)).ta (by decide)).ta (by decide)).ti (by decide)).ti (by decide)).ti (by decide)
  have f96 : ∀ τ : ZS, MM τ N → fr LF LR σ τ → wpX11_load_96 a 0 τ Q := by
    intro τ0 h0 k0
    unfold wpX11_load_96
    refine lfp1_ind (fun v _ => (600 - v).toNat) (fun v τ => (0 ≤ v ∧ v ≤ zI σ 0 64) ∧ MM τ N ∧ fr LF LR σ τ) ?_ ⟨by omega, h0, k0⟩
    intro P v τ ⟨hv, hm, hf⟩ ih
    show wpbX11_load_96 P a v τ Q
    unfold wpbX11_load_96
    have j64 : zI τ 0 64 = zI σ 0 64 := hf.1 64 (by decide)
    have b0 := hm.1 ((16 * a + zA τ 0 63 v) % 4096) (by omega) (by omega)
    have b1 := hm.1 ((16 * a + zA τ 0 63 v + 1) % 4096) (by omega) (by omega)
    rw [zor_bytes (by omega) (by omega)]
    exact ⟨by omega, by omega, fun _ => f191 τ hm hf, fun _ => ⟨by omega, by omega, ih _ _ ⟨by omega, (hm.u74 (by omega)).u74 (by omega), (hf.ta (by decide)).ta (by decide)⟩ (by show (600 - (v + 1)).toNat < (600 - v).toNat; omega)⟩⟩
  have f59 : ∀ τ : ZS, MM τ N → fr LF LR σ τ → wpX11_load_59 a 0 τ Q := by
    intro τ0 h0 k0
    unfold wpX11_load_59
    refine lfp1_ind (fun v _ => (1200 - v).toNat) (fun v τ => (0 ≤ v ∧ v ≤ zI σ 0 62) ∧ MM τ N ∧ fr LF LR σ τ) ?_ ⟨by omega, h0, k0⟩
    intro P v τ ⟨hv, hm, hf⟩ ih
    show wpbX11_load_59 P a v τ Q
    unfold wpbX11_load_59
    have j62 : zI τ 0 62 = zI σ 0 62 := hf.1 62 (by decide)
    refine ⟨by omega, by omega, fun _ => f96 τ hm hf, fun nv => ⟨by omega, ih _ _ ⟨by omega, hm.u74 ?_, hf.ta (by decide)⟩ (by show (1200 - (v + 1)).toNat < (1200 - v).toNat; omega)⟩⟩
    rw [hf.2 61 (by decide)]
    exact hIM.1 v hv.1 (by omega)
  unfold wpX11_load_37
  refine lfp1_ind (fun v _ => (4096 - v).toNat) (fun v τ => (0 ≤ v ∧ v ≤ 4096) ∧ MM τ N ∧ fr LF LR σ τ) ?_ ⟨by omega, h, hf0⟩
  intro P v τ ⟨hv, hm, hf⟩ ih
  show wpbX11_load_37 P a v τ Q
  unfold wpbX11_load_37
  exact ⟨by omega, fun _ => f59 τ hm hf, fun _ => ⟨by omega, ih _ _ ⟨by omega, hm.u74 (by decide), hf.ta (by decide)⟩ (by show (4096 - (v + 1)).toNat < (4096 - v).toNat; omega)⟩⟩
theorem s_drop {σ : ZS} {a : Int} {Q : Int → ZS → Prop} (hG : GM σ) (ha : -2147483648 ≤ a ∧ a ≤ 2147483647) (hQ : ∀ (x : Int) (τ : ZS), GM τ → fr [0] [43] σ τ → (0 ≤ x ∧ x ≤ 1) → Q x τ) : wpX11_drop a σ Q := by
  have bad : wpX11_drop_14 (zsI σ 0 0 0) Q := hQ 0 _ hG ((fr.rf.ti (by decide)).ti (by decide)) (by decide)
  unfold wpX11_drop
  refine ⟨ha, fun _ => bad, fun _ => ⟨fun _ => ?_, fun _ => bad⟩⟩
  have h := hG.2.2.2.2 a (by omega) (by omega)
  exact ⟨by omega, h, hQ _ _ (GM.u43 (σ := zsI σ 0 0 0) hG (by decide)) ((fr.rf.ti (by decide)).ta (by decide)) h⟩
theorem s_append {σ : ZS} {a n : Int} {Q : Int → ZS → Prop} (hT : Tx σ) (hn : -2147483648 ≤ n ∧ n ≤ 2147483647) (hQ : ∀ (x : Int) (τ : ZS), Tx τ → fr [0, 2] [1] σ τ → (0 ≤ x ∧ x ≤ 480) → Q x τ) : wpX11_append a n σ Q := by
  have hf0 : fr [0, 2] [1] σ (zsI σ 0 0 0) := fr.i (by decide)
  have bad : ∀ r : Int, wpX11_raise r (zsI σ 0 0 0) (fun (x9 : Int) (σ10 : ZS) => Q x9 σ10) := by
    intro r
    have hm : Tx (zsI (zsI σ 0 0 0) 0 0 r) := hT
    exact hQ 0 _ hm (hf0.ti (by decide)) (by decide)
  have h2 := hT.1
  unfold wpX11_append
  refine ⟨hn, fun _ => bad 1, fun _ => ⟨fun _ => ?_, fun _ => bad 1⟩⟩
  unfold wpX11_append_25
  refine lfp1_ind (fun v _ => (n - v).toNat) (fun v τ => (0 ≤ v ∧ v ≤ n) ∧ τ = zsI σ 0 0 0 ∧ (∀ j : Int, 0 ≤ j → j < v → 32 ≤ zlshr a (8 * j) % 256 ∧ zlshr a (8 * j) % 256 ≤ 126)) ?_ ⟨by omega, rfl, fun j x y => absurd y (by omega)⟩
  intro P v τ ⟨hv, he, hb⟩ ih
  rw [he]
  show wpbX11_append_25 P a n v (zsI σ 0 0 0) Q
  unfold wpbX11_append_25
  have e2 : zI (zsI σ 0 0 0) 0 2 = zI σ 0 2 := rfl
  rw [e2]
  refine ⟨by omega, by omega, fun _ => ⟨by omega, fun le => ?_, fun _ => bad 2⟩, fun nv => ⟨fun _ => bad 1, fun g1 => ⟨fun g2 => ih _ _ ⟨by omega, rfl, fun j x y => ?_⟩ (by show (n - (v + 1)).toNat < (n - v).toNat; omega), fun _ => bad 1⟩⟩⟩
  · have hev : v = n := by omega
    unfold wpX11_append_94
    refine lfp1_ind (fun w _ => (w + 1).toNat) (fun w τ => (-1 ≤ w ∧ w < n) ∧ Tx τ ∧ fr [0, 2] [1] σ τ ∧ zI τ 0 2 + w + 1 ≤ 480) ?_ ⟨by omega, hT, hf0, by show zI σ 0 2 + (n - 1) + 1 ≤ 480; omega⟩
    intro P2 w υ ⟨hw, hTu, hf, hl⟩ ih2
    show wpbX11_append_94 P2 a w υ Q
    unfold wpbX11_append_94
    have hu := hTu.1
    refine ⟨by omega, fun _ => hQ _ _ hTu hf hu, fun nw => ⟨by omega, ih2 _ _ ⟨by omega, ⟨?_, fun j j0 j1 => ?_, hTu.2.2⟩, (hf.ta (by decide)).ti (by decide), ?_⟩ (by show (w + -1 + 1).toNat < (w + 1).toNat; omega)⟩⟩
    · show 0 ≤ zI υ 0 2 + 1 ∧ zI υ 0 2 + 1 ≤ 480
      omega
    · have j1' : j < zI υ 0 2 + 1 := j1
      show 32 ≤ zu (zA υ 0 1) (zI υ 0 2) (zlshr a (8 * w) % 256) j ∧ zu (zA υ 0 1) (zI υ 0 2) (zlshr a (8 * w) % 256) j ≤ 126
      by_cases e : j = zI υ 0 2
      · rw [e, pu_eq]; exact hb w (by omega) (by omega)
      · rw [pu_ne e]; exact hTu.2.1 j j0 (by omega)
    · show zI υ 0 2 + 1 + (w + -1) + 1 ≤ 480
      omega
  · by_cases e : j = v
    · rw [e]; omega
    · exact hb j x (by omega)
/-! P: the reference's reads -/
theorem s_code {σ : ZS} {a b c : Int} {Q : Int → ZS → Prop} (hA : MA σ) (ha : -2147483648 ≤ a ∧ a ≤ 2147483647) (hb : -2147483648 ≤ b ∧ b ≤ 2147483647) (hc : -2147483648 ≤ c ∧ c ≤ 2147483647) (hQ : ∀ (x : Int) (τ : ZS), fr [0] [] σ τ → (0 ≤ x ∧ x ≤ 255) → Q x τ) : wpX11_code a b c σ Q := by
  have bad : wpX11_code_37 (zsI σ 0 0 0) Q := hQ 0 _ ((fr.rf.ti (by decide)).ti (by decide)) (by decide)
  unfold wpX11_code
  refine ⟨ha, fun _ => bad, fun _ => ⟨fun _ => bad, fun _ => ?_⟩⟩
  have h43 := hA.1.2.2.2.2 a (by omega) (by omega)
  have hM := hA.2 a (by omega) (by omega)
  have h44 := hM.1.1
  refine ⟨by omega, by omega, fun _ => bad, fun _ => ⟨hb, fun _ => bad, fun _ => ⟨by omega, fun l => ⟨hc, fun _ => bad, fun _ => ?_⟩, fun _ => bad⟩⟩⟩
  have hs := hM.2.1 b (by omega) l
  refine ⟨by omega, by omega, fun l2 => ⟨by omega, hQ _ _ (fr.rf.ti (by decide)) ?_⟩, fun _ => bad⟩
  exact hA.1.2.2.2.1 _ (by omega) (by omega)
theorem s_fixup {σ : ZS} {a b c : Int} {Q : Int → ZS → Prop} (hA : MA σ) (ha : -2147483648 ≤ a ∧ a ≤ 2147483647) (hb : -2147483648 ≤ b ∧ b ≤ 2147483647) (hc : -2147483648 ≤ c ∧ c ≤ 2147483647) (hQ : ∀ (x : Int) (τ : ZS), fr [0] [] σ τ → (-1 ≤ x ∧ x ≤ 400) → Q x τ) : wpX11_fixup a b c σ Q := by
  have bad : ∀ r : Int, wpX11_raise r (zsI σ 0 0 0) (fun (x9 : Int) (σ10 : ZS) => Q x9 σ10) := fun r => hQ 0 _ ((fr.rf.ti (by decide)).ti (by decide)) (by decide)
  unfold wpX11_fixup
  refine ⟨hc, fun _ => bad 1, fun _ => ⟨fun _ => ⟨ha, fun _ => bad 2, fun _ => ⟨fun _ => bad 2, fun _ => ?_⟩⟩, fun _ => bad 1⟩⟩
  have h43 := hA.1.2.2.2.2 a (by omega) (by omega)
  have hM := hA.2 a (by omega) (by omega)
  have h44 := hM.1.1
  have h50 := hM.1.2.1
  refine ⟨by omega, by omega, fun _ => bad 2, fun _ => ⟨hb, fun _ => bad 2, fun _ => ⟨by omega, fun l => ?_, fun _ => bad 2⟩⟩⟩
  obtain ⟨f1, f2, f3, f4, f5⟩ := hM.2.2.1 b (by omega) l
  have hs := hM.2.1 _ f2.1 f2.2
  unfold wpX11_fixup_118
  have ok : ∀ x : Int, (-1 ≤ x ∧ x ≤ 400) → Q x (zsI σ 0 0 0) := fun x hx => hQ x _ (fr.rf.ti (by decide)) hx
  exact ⟨fun _ => ⟨fun _ => ⟨fun _ => ⟨by omega, ok _ (by omega)⟩, fun _ => ⟨by omega, ok _ (by omega)⟩⟩, fun _ => ⟨by omega, ok _ (by omega)⟩⟩, fun _ => ⟨by omega, ok _ (by omega)⟩⟩
theorem s_image {σ : ZS} {a : Int} {Q : Int → ZS → Prop} (hI : IG σ) (ha : -2147483648 ≤ a ∧ a ≤ 2147483647) (hQ : ∀ (x : Int) (τ : ZS), fr [0] [] σ τ → (0 ≤ x ∧ x ≤ 255) → Q x τ) : wpX11_image a σ Q := by
  have bad : wpX11_image_17 (zsI σ 0 0 0) Q := hQ 0 _ ((fr.rf.ti (by decide)).ti (by decide)) (by decide)
  obtain ⟨hIM, i62, -⟩ := hI
  unfold wpX11_image
  exact ⟨ha, fun _ => bad, fun _ => ⟨by omega, fun _ => ⟨by omega, hQ _ _ (fr.rf.ti (by decide)) (hIM.1 a (by omega) (by omega))⟩, fun _ => bad⟩⟩
theorem s_memoryAt {σ : ZS} {N a : Int} {Q : Int → ZS → Prop} (h : MM σ N) (ha : -2147483648 ≤ a ∧ a ≤ 2147483647) (hQ : ∀ (x : Int) (τ : ZS), fr [0] [] σ τ → (0 ≤ x ∧ x ≤ 255) → Q x τ) : wpX11_memory a σ Q := by
  have bad : wpX11_memory_16 (zsI σ 0 0 0) Q := hQ 0 _ ((fr.rf.ti (by decide)).ti (by decide)) (by decide)
  unfold wpX11_memory
  exact ⟨ha, fun _ => bad, fun _ => ⟨fun _ => ⟨by omega, hQ _ _ (fr.rf.ti (by decide)) (h.1 a (by omega) (by omega))⟩, fun _ => bad⟩⟩
theorem s_register {σ : ZS} {N a : Int} {Q : Int → ZS → Prop} (h : MM σ N) (ha : -2147483648 ≤ a ∧ a ≤ 2147483647) (hQ : ∀ (x : Int) (τ : ZS), fr [0] [] σ τ → (0 ≤ x ∧ x ≤ 65535) → Q x τ) : wpX11_register a σ Q := by
  have bad : wpX11_register_15 (zsI σ 0 0 0) Q := hQ 0 _ ((fr.rf.ti (by decide)).ti (by decide)) (by decide)
  unfold wpX11_register
  exact ⟨ha, fun _ => bad, fun _ => ⟨fun _ => ⟨by omega, hQ _ _ (fr.rf.ti (by decide)) (h.2.1 a (by omega) (by omega))⟩, fun _ => bad⟩⟩
theorem s_trace {σ : ZS} {N a : Int} {Q : Int → ZS → Prop} (h : MM σ N) (hN : N ≤ 1000000) (ha : -2147483648 ≤ a ∧ a ≤ 2147483647) (hQ : ∀ (x : Int) (τ : ZS), fr [0] [] σ τ → (-2147483648 ≤ x ∧ x ≤ 2147483647) → Q x τ) : wpX11_trace a σ Q := by
  have bad : wpX11_trace_23 (zsI σ 0 0 0) Q := hQ 0 _ ((fr.rf.ti (by decide)).ti (by decide)) (by decide)
  obtain ⟨-, -, h79, -, h78, -⟩ := id h
  unfold wpX11_trace
  exact ⟨ha, fun _ => bad, fun _ => ⟨by omega, fun _ => bad, fun _ => ⟨fun _ => ⟨by omega, hQ _ _ (fr.rf.ti (by decide)) (h79 a (by omega) (by omega))⟩, fun _ => bad⟩⟩⟩
theorem s_count {σ : ZS} {N a : Int} {Q : Int → ZS → Prop} (h : MM σ N) (hA : MA σ) (ha : -2147483648 ≤ a ∧ a ≤ 2147483647) (hQ : ∀ (x : Int) (τ : ZS), fr [0] [] σ τ → Q x τ) : wpX11_count a σ Q := by
  have ok : ∀ x : Int, Q x (zsI σ 0 0 0) := fun x => hQ x _ (fr.rf.ti (by decide))
  have bad : wpX11_count_15 (zsI σ 0 0 0) Q := hQ 0 _ ((fr.rf.ti (by decide)).ti (by decide))
  obtain ⟨-, -, -, h76, -⟩ := id h
  unfold wpX11_count wpX11_count_175 wpX11_count_84 wpX11_count_52
  refine ⟨ha, fun _ => bad, fun _ => ⟨fun _ => ⟨fun _ => ⟨fun _ => ⟨fun _ => ok _, fun _ => ⟨fun _ => ok _, fun _ => ⟨fun _ => ok _, fun _ => ⟨fun _ => ok _, fun _ => ⟨fun _ => ok _, fun _ => ⟨fun _ => ok _, fun _ => ⟨fun _ => ok _, fun _ => ⟨by omega, fun _ => ok _, fun _ => ok _⟩⟩⟩⟩⟩⟩⟩⟩, fun _ => ?_⟩, fun _ => ?_⟩, fun _ => bad⟩⟩
  · have h43 := hA.1.2.2.2.2 (a - 8) (by omega) (by omega)
    exact ⟨by omega, by omega, fun _ => ok _, fun _ => ok _⟩
  · have h43 := hA.1.2.2.2.2 (a - 11) (by omega) (by omega)
    exact ⟨by omega, by omega, fun _ => ok _, fun _ => ok _⟩
/-- what stands between calls, the reference's side -/
def RI (σ : ZS) (N : Int) : Prop := PA0 σ ∧ OFs σ ∧ MA σ ∧ IG σ ∧ MM σ N
/-! P: what stands between calls, kept -/
theorem PA0.same {σ τ : ZS} (h : PA0 σ) (i : ∀ f : Nat, f ∈ [2, 8, 9, 10, 37, 38, 39, 41, 42] → zI τ 0 f = zI σ 0 f) (a : ∀ j : Nat, j ∈ [1, 11, 12, 13, 14, 15, 19, 20, 21, 22, 24, 25, 26, 27, 28, 30, 35] → zA τ 0 j = zA σ 0 j) : PA0 τ := by
  unfold PA0 Tx G1 G2 G3
  rw [i 2 (by decide), i 8 (by decide), i 9 (by decide), i 10 (by decide), i 37 (by decide), i 38 (by decide), i 39 (by decide), i 41 (by decide), i 42 (by decide), a 1 (by decide), a 11 (by decide), a 12 (by decide), a 13 (by decide), a 14 (by decide), a 15 (by decide), a 19 (by decide), a 20 (by decide), a 21 (by decide), a 22 (by decide), a 24 (by decide), a 25 (by decide), a 26 (by decide), a 27 (by decide), a 28 (by decide), a 30 (by decide), a 35 (by decide)]
  exact h
theorem IG.same {σ τ : ZS} (h : IG σ) (i : ∀ f : Nat, f ∈ [60, 62, 64, 65, 66] → zI τ 0 f = zI σ 0 f) (a : ∀ j : Nat, j ∈ [61, 63] → zA τ 0 j = zA σ 0 j) : IG τ := by
  unfold IG IM
  rw [i 60 (by decide), i 62 (by decide), i 64 (by decide), i 65 (by decide), i 66 (by decide), a 61 (by decide), a 63 (by decide)]
  exact h
theorem MM.same {σ τ : ZS} {N : Int} (h : MM σ N) (i : ∀ f : Nat, f ∈ [76, 78, 80, 81, 82, 83, 84] → zI τ 0 f = zI σ 0 f) (a : ∀ j : Nat, j ∈ MR → zA τ 0 j = zA σ 0 j) : MM τ N := by
  unfold MM
  rw [i 76 (by decide), i 78 (by decide), i 80 (by decide), i 81 (by decide), i 82 (by decide), i 83 (by decide), i 84 (by decide), a 74 (by decide), a 75 (by decide), a 79 (by decide)]
  exact h
theorem fr.in {fs as : List Nat} {σ τ : ZS} (h : fr fs as σ τ) {l : List Nat} (hd : ∀ f ∈ l, f ∉ fs) : ∀ f : Nat, f ∈ l → zI τ 0 f = zI σ 0 f := fun f hf => h.1 f (hd f hf)
theorem fr.an {fs as : List Nat} {σ τ : ZS} (h : fr fs as σ τ) {l : List Nat} (hd : ∀ f ∈ l, f ∉ as) : ∀ f : Nat, f ∈ l → zA τ 0 f = zA σ 0 f := fun f hf => h.2 f (hd f hf)
theorem RI.read {σ τ : ZS} {N : Int} (h : RI σ N) (f : fr [0] [] σ τ) : RI τ N := ⟨h.1.same (f.in (by decide)) (f.an (by decide)), h.2.1.up (f.2 16 (by decide)), h.2.2.1.up (f.an (by decide)), h.2.2.2.1.same (f.in (by decide)) (f.an (by decide)), h.2.2.2.2.same (f.in (by decide)) (f.an (by decide))⟩
theorem RI.mo {σ : ZS} {N M : Int} (h : RI σ N) (hN : N ≤ M) : RI σ M := ⟨h.1, h.2.1, h.2.2.1, h.2.2.2.1, h.2.2.2.2.mo hN⟩
theorem i_assemble {σ : ZS} {N a : Int} {Q : Int → ZS → Prop} (h : RI σ N) (ha : -2147483648 ≤ a ∧ a ≤ 2147483647) (hQ : ∀ (r : Int) (τ : ZS), RI τ N → zI τ 0 2 = (if 0 ≤ a ∧ a ≤ 2 then 0 else zI σ 0 2) → (0 ≤ r ∧ r ≤ 400) → Q r τ) : wpX11_assemble a σ Q := by
  obtain ⟨h1, h2, h3, h4, h5⟩ := h
  exact s_assemble ⟨h1, h2, h3.1, h3.2⟩ ha (fun r τ g f hr e => hQ r τ ⟨g.1, g.2.1, ⟨g.2.2.1, g.2.2.2⟩, h4.same (f.in (by decide)) (f.an (by decide)), h5.same (f.in (by decide)) (f.an (by decide))⟩ e hr)
theorem i_link {σ : ZS} {N : Int} {Q : Int → ZS → Prop} (h : RI σ N) (hQ : ∀ (r : Int) (τ : ZS), RI τ N → (zI τ 0 2 = zI σ 0 2 ∧ zA τ 0 1 = zA σ 0 1) → (0 ≤ r ∧ r ≤ 1200) → Q r τ) : wpX11_link σ Q := by
  obtain ⟨h1, h2, h3, h4, h5⟩ := h
  exact s_link h3 h4 (fun r τ g f hr => hQ r τ ⟨h1.same (f.in (by decide)) (f.an (by decide)), h2.up (f.2 16 (by decide)), h3.up (f.an (by decide)), g, h5.same (f.in (by decide)) (f.an (by decide))⟩ ⟨f.1 2 (by decide), f.2 1 (by decide)⟩ hr)
theorem i_run {σ : ZS} {N a : Int} {Q : Int → ZS → Prop} (h : RI σ N) (hN : 0 ≤ N ∧ N ≤ 900000) (ha : -2147483648 ≤ a ∧ a ≤ 2147483647) (hQ : ∀ (r : Int) (τ : ZS), RI τ (N + 400) → (zI τ 0 2 = zI σ 0 2 ∧ zA τ 0 1 = zA σ 0 1) → (0 ≤ r ∧ r ≤ 3) → Q r τ) : wpX11_run a σ Q := by
  obtain ⟨h1, h2, h3, h4, h5⟩ := h
  exact s_run h5 hN.2 ha hN.1 (fun r τ g f hr => hQ r τ ⟨h1.same (f.in (by decide)) (f.an (by decide)), h2.up (f.2 16 (by decide)), h3.up (f.an (by decide)), h4.same (f.in (by decide)) (f.an (by decide)), g⟩ ⟨f.1 2 (by decide), f.2 1 (by decide)⟩ hr)
theorem i_load {σ : ZS} {N a : Int} {Q : Int → ZS → Prop} (h : RI σ N) (hN : 0 ≤ N) (ha : -2147483648 ≤ a ∧ a ≤ 2147483647) (hQ : ∀ (r : Int) (τ : ZS), RI τ N → (zI τ 0 2 = zI σ 0 2 ∧ zA τ 0 1 = zA σ 0 1) → (0 ≤ r ∧ r ≤ 65535) → Q r τ) : wpX11_load a σ Q := by
  obtain ⟨h1, h2, h3, h4, h5⟩ := h
  exact s_load h4 h5 hN ha (fun r τ g f hr => hQ r τ ⟨h1.same (f.in (by decide)) (f.an (by decide)), h2.up (f.2 16 (by decide)), h3.up (f.an (by decide)), h4.same (f.in (by decide)) (f.an (by decide)), g⟩ ⟨f.1 2 (by decide), f.2 1 (by decide)⟩ hr)
