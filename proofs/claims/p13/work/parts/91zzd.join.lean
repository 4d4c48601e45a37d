/-! L: what is alike between calls, modules too -/
def LT (σ ρ : ZS) : Prop := zI σ 10 1 = zI ρ 0 2 ∧ ∀ j : Int, 0 ≤ j → j < zI ρ 0 2 → zA ρ 0 1 j = zA σ 10 0 j
def LH (σ ρ : ZS) : Prop := ∀ m : Int, 0 ≤ m → m ≤ 2 → zI σ m 0 = zA ρ 0 43 m
/-- a module that is there is alike; one that isn't is empty -/
def ML (σ ρ : ZS) (m : Int) : Prop := (zI σ m 0 = 0 → zI σ m 1 = 0 ∧ zI σ m 7 = 0 ∧ zI σ m 13 = 0) ∧ (zI σ m 0 ≠ 0 → MLx σ ρ m)
def MLa (σ ρ : ZS) : Prop := ∀ m : Int, 0 ≤ m → m ≤ 2 → ML σ ρ m
def Alk (σ ρ : ZS) : Prop := LT σ ρ ∧ LH σ ρ ∧ MLa σ ρ
theorem ML.k {σ ρ τ υ : ZS} {m : Int} (h : ML σ ρ m) (e : ob τ m = ob σ m) (r : ∀ f : Nat, f ∈ WB → zA υ 0 f = zA ρ 0 f) : ML τ υ m := by
  unfold ML MLx at h ⊢
  rw [ob_I e 0, ob_I e 1, ob_I e 7, ob_I e 13, ob_A e 2, ob_A e 3, ob_A e 4, ob_A e 5, ob_A e 6, ob_A e 8, ob_A e 9, ob_A e 10, ob_A e 11, ob_A e 12, ob_A e 14, ob_A e 15, ob_A e 16, r 44 (by decide), r 45 (by decide), r 46 (by decide), r 47 (by decide), r 48 (by decide), r 49 (by decide), r 50 (by decide), r 51 (by decide), r 52 (by decide), r 53 (by decide), r 54 (by decide), r 55 (by decide), r 56 (by decide), r 57 (by decide), r 58 (by decide), r 59 (by decide)]
  exact h
theorem ML.o {σ ρ τ υ : ZS} {m a : Int} (h : ML σ ρ m) (e : ob τ m = ob σ m) (o : OY a ρ υ) (hm : 0 ≤ m ∧ m ≤ 2) (ha : 0 ≤ a ∧ a ≤ 2) (ne : m ≠ a) (h1 : zI σ m 1 ≤ 24) (h7 : zI σ m 7 ≤ 200) (h56 : zA ρ 0 56 m ≤ 80) : ML τ υ m := by
  obtain ⟨⟨o1, o2, o3, o4⟩, v1, v2, v3, v4⟩ := o
  obtain ⟨-, x44, x50, x56⟩ := o1 m ne
  unfold ML MLx at h ⊢
  rw [ob_I e 0, ob_I e 1, ob_I e 7, ob_I e 13, ob_A e 2, ob_A e 3, ob_A e 4, ob_A e 5, ob_A e 6, ob_A e 8, ob_A e 9, ob_A e 10, ob_A e 11, ob_A e 12, ob_A e 14, ob_A e 15, ob_A e 16, x44, x50, x56]
  refine ⟨h.1, fun n0 => ?_⟩
  obtain ⟨⟨g1, g2⟩, g3, ⟨g4, g5⟩, g6, g7, g8⟩ := h.2 n0
  refine ⟨⟨g1, fun s s0 s1 => ?_⟩, fun j j0 j1 => ?_, ⟨g4, fun k k0 k1 => ?_⟩, fun k k0 k1 => ?_, fun q q0 q1 => ?_, g8⟩
  · obtain ⟨y1, y2, y3⟩ := o2 (24 * m + s) (by omega)
    rw [y1, y2, y3, v1 (24 * m + s) (by omega)]; exact g2 s s0 s1
  · rw [v2 (400 * m + j) (by omega)]; exact g3 j j0 j1
  · obtain ⟨y1, y2, y3, y4⟩ := o3 (200 * m + k) (by omega)
    rw [y1, y2, y3, y4, v3 (200 * m + k) (by omega)]; exact g5 k k0 k1
  · obtain ⟨y1, y2⟩ := o4 (80 * m + k) (by omega)
    rw [y1, y2, v4 (80 * m + k) (by omega)]; exact g6 k k0 k1
  · obtain ⟨k, kb, z⟩ := g7 q q0 q1
    obtain ⟨y1, y2⟩ := o4 (80 * m + k) (by omega)
    exact ⟨k, kb, by rw [y1, y2, v4 (80 * m + k) (by omega)]; exact z⟩
/-- the class keeps: text, modules -/
def KC (σ τ : ZS) : Prop := (zI τ 10 1 = zI σ 10 1 ∧ zA τ 10 0 = zA σ 10 0) ∧ ∀ m : Int, 0 ≤ m → m ≤ 2 → ob τ m = ob σ m
theorem KC.rf {σ : ZS} : KC σ σ := ⟨⟨rfl, rfl⟩, fun _ _ _ => rfl⟩
theorem KC.m {σ τ : ZS} (k : kp [18] σ τ) : KC σ τ := ⟨⟨k.I (by decide) 1, k.A (by decide) 0⟩, fun m m0 m2 => k m (by simp only [List.mem_cons, List.not_mem_nil, or_false]; omega)⟩
theorem LT.k {σ ρ τ υ : ZS} (h : LT σ ρ) (c1 : zI τ 10 1 = zI σ 10 1) (c2 : zA τ 10 0 = zA σ 10 0) (r2 : zI υ 0 2 = zI ρ 0 2) (r1 : zA υ 0 1 = zA ρ 0 1) : LT τ υ := by
  unfold LT; rw [c1, c2, r1, r2]; exact h
theorem Alk.k {σ ρ τ υ : ZS} {fs as : List Nat} (h : Alk σ ρ) (c : KC σ τ) (f : fr fs as ρ υ) (f2 : 2 ∉ fs) (f1 : 1 ∉ as) (fw : ∀ k ∈ WA, k ∉ as) : Alk τ υ := ⟨h.1.k c.1.1 c.1.2 (f.1 2 f2) (f.2 1 f1), fun m m0 m2 => by rw [ob_I (c.2 m m0 m2) 0, f.2 43 (fw 43 (by decide))]; exact h.2.1 m m0 m2, fun m m0 m2 => (h.2.2 m m0 m2).k (c.2 m m0 m2) (fun k hk => f.2 k (fw k ((show ∀ k ∈ WB, k ∈ WA by decide) k hk)))⟩
theorem c_append2 {σ : ZS} {N v n : Int} {Q : Int → ZS → Prop} {X : String → ZS → Prop} (h : CI σ N) (hn : -2147483648 ≤ n ∧ n ≤ 2147483647) (hB : ¬ apok v n → X xIAE σ) (hF : apok v n → 480 < zI σ 10 1 + n → X xIOB σ) (hO : apok v n → zI σ 10 1 + n ≤ 480 → ∀ τ : ZS, CI τ N → zI τ 10 1 = zI σ 10 1 + n → zA τ 10 0 = apT (zA σ 10 0) (zI σ 10 1) v n n → kp [10] σ τ → Q (zI σ 10 1 + n) τ) : wpX10_append v n σ Q X := by
  obtain ⟨hT, hr⟩ := h
  have h2 := hT.1
  unfold wpX10_append wpX10_append_11
  refine ⟨hn, fun q => hB (fun a => by have := a.1; omega), fun g1 => ⟨fun g8 => ?_, fun q => hB (fun a => by have := a.1; omega)⟩⟩
  unfold wpX10_append_24
  refine lfp1_ind (fun w _ => (n - w).toNat) (fun w τ => (0 ≤ w ∧ w ≤ n) ∧ τ = σ ∧ (∀ j : Int, 0 ≤ j → j < w → 32 ≤ zlshr v (8 * j) % 256 ∧ zlshr v (8 * j) % 256 ≤ 126)) ?_ ⟨by omega, rfl, fun j x y => absurd y (by omega)⟩
  intro P w τ ⟨hw, he, hb⟩ ih
  rw [he]
  show wpbX10_append_24 P v n w σ Q X
  unfold wpbX10_append_24 wpX10_append_52 wpX10_byteOf
  refine ⟨by omega, by omega, fun q => ?_, fun nv => ?_⟩
  · have ok : apok v n := ⟨by omega, fun j j0 j1 => hb j j0 (by omega)⟩
    refine ⟨by omega, fun le => ?_, fun nle => hF ok (by omega)⟩
    unfold wpX10_append_95
    refine lfp1_ind (fun u _ => (u + 1).toNat) (fun u τ => (-1 ≤ u ∧ u < n) ∧ TX τ ∧ kp [10] σ τ ∧ zI τ 10 1 = zI σ 10 1 + (n - 1 - u) ∧ zA τ 10 0 = apT (zA σ 10 0) (zI σ 10 1) v n (n - 1 - u)) ?_ ⟨by omega, hT, kp.rf, by omega, by rw [show n - 1 - (n - 1) = 0 by omega, apT_0]⟩
    intro P2 u υ ⟨hu, hTu, hk, hl, ht⟩ ih2
    show wpbX10_append_95 P2 v u υ Q X
    unfold wpbX10_append_95 wpX10_byteOf
    have hu1 := hTu.1
    refine ⟨by omega, fun q => ?_, fun nq => ?_⟩
    · have eu : u = -1 := by omega
      rw [hl, eu, show n - 1 - (-1 : Int) = n by omega]
      obtain ⟨r1, r2, r3, r4, r5, r6⟩ := hr
      refine hO ok le υ ⟨hTu, r1.k (hk 11 (by decide)), r2.k (hk 15 (by decide)), r3.k hk (by decide) (by decide) (by decide), r4.k (hk 16 (by decide)), r5.k (hk 17 (by decide)), r6.k (hk 18 (by decide))⟩ (by rw [hl, eu]; omega) (by rw [ht, eu, show n - 1 - (-1 : Int) = n by omega]) hk
    · have oku := ok.2 u (by omega) (by omega)
      rw [z_lb (by omega)]
      dsimp only
      rw [show zlshr v (8 * u) % 256 % 65536 = zlshr v (8 * u) % 256 by omega]
      refine ⟨by omega, ih2 _ _ ⟨by omega, ⟨?_, rng_zu hTu.2.1 (by omega), fun j j0 j1 => ?_⟩, (hk.ta (by decide)).ti (by decide), ?_, ?_⟩ (by omega)⟩
      · show 0 ≤ zI υ 10 1 + 1 ∧ zI υ 10 1 + 1 ≤ 480
        omega
      · have j1' : j < zI υ 10 1 + 1 := j1
        show 32 ≤ zu (zA υ 10 0) (zI υ 10 1) (zlshr v (8 * u) % 256) j
        by_cases e : j = zI υ 10 1
        · rw [e, pu_eq]; exact oku.1
        · rw [pu_ne e]; exact hTu.2.2 j j0 (by omega)
      · show zI υ 10 1 + 1 = zI σ 10 1 + (n - 1 - (u + -1))
        omega
      · show zu (zA υ 10 0) (zI υ 10 1) (zlshr v (8 * u) % 256) = _
        rw [ht, hl]
        have r := apT_s (h := zA σ 10 0) (l := zI σ 10 1) (v := v) (n := n) (m := n - 1 - u) (by omega)
        rw [show n - 1 - (n - 1 - u) = u by omega] at r
        rw [r, show n - 1 - u + 1 = n - 1 - (u + -1) by omega]
  · rw [z_lb (by omega)]
    refine ⟨by omega, fun q => hB (fun a => by have := a.2 w hw.1 (by omega); omega), fun g1 => ⟨fun g2 => ih _ _ ⟨by omega, rfl, fun j x y => ?_⟩ (by omega), fun q => hB (fun a => by have := a.2 w hw.1 (by omega); omega)⟩⟩
    by_cases e : j = w
    · rw [e]; omega
    · exact hb j x (by omega)
theorem e_append2 {σ : ZS} {N v n : Int} {Q : Int → ZS → Prop} (h : RI σ N) (hn : -2147483648 ≤ n ∧ n ≤ 2147483647) (hB : ¬ apok v n → ∀ τ : ZS, RI τ N → zI τ 0 0 = 1 → zI τ 0 2 = zI σ 0 2 → zA τ 0 1 = zA σ 0 1 → fr [0, 2] [1] σ τ → Q 0 τ) (hF : apok v n → 480 < zI σ 0 2 + n → ∀ τ : ZS, RI τ N → zI τ 0 0 = 2 → zI τ 0 2 = zI σ 0 2 → zA τ 0 1 = zA σ 0 1 → fr [0, 2] [1] σ τ → Q 0 τ) (hO : apok v n → zI σ 0 2 + n ≤ 480 → ∀ τ : ZS, RI τ N → zI τ 0 0 = 0 → zI τ 0 2 = zI σ 0 2 + n → zA τ 0 1 = apT (zA σ 0 1) (zI σ 0 2) v n n → fr [0, 2] [1] σ τ → Q (zI σ 0 2 + n) τ) : wpX11_append v n σ Q := by
  have hf0 : fr [0] [] σ (zsI σ 0 0 0) := fr.i (by decide)
  have bad : ¬ apok v n → wpX11_raise 1 (zsI σ 0 0 0) (fun (x9 : Int) (σ10 : ZS) => Q x9 σ10) := fun q => hB q _ (h.read (hf0.ti (by decide))) rfl rfl rfl ((fr.rf.ti (by decide)).ti (by decide))
  have h2 := h.1.1.1
  unfold wpX11_append wpX11_append_16
  refine ⟨hn, fun q => bad (fun a => by have := a.1; omega), fun g1 => ⟨fun g8 => ?_, fun q => bad (fun a => by have := a.1; omega)⟩⟩
  unfold wpX11_append_25
  refine lfp1_ind (fun w _ => (n - w).toNat) (fun w τ => (0 ≤ w ∧ w ≤ n) ∧ τ = zsI σ 0 0 0 ∧ (∀ j : Int, 0 ≤ j → j < w → 32 ≤ zlshr v (8 * j) % 256 ∧ zlshr v (8 * j) % 256 ≤ 126)) ?_ ⟨by omega, rfl, fun j x y => absurd y (by omega)⟩
  intro P w τ ⟨hw, he, hb⟩ ih
  rw [he]
  show wpbX11_append_25 P v n w (zsI σ 0 0 0) Q
  unfold wpbX11_append_25 wpX11_append_59
  have e2 : zI (zsI σ 0 0 0) 0 2 = zI σ 0 2 := rfl
  rw [e2]
  refine ⟨by omega, by omega, fun q => ?_, fun nv => ⟨fun q => bad (fun a => by have := a.2 w hw.1 (by omega); omega), fun g1 => ⟨fun g2 => ih _ _ ⟨by omega, rfl, fun j x y => ?_⟩ (by omega), fun q => bad (fun a => by have := a.2 w hw.1 (by omega); omega)⟩⟩⟩
  · have ok : apok v n := ⟨by omega, fun j j0 j1 => hb j j0 (by omega)⟩
    refine ⟨by omega, fun le => ?_, fun nle => hF ok (by omega) _ (h.read (hf0.ti (by decide))) rfl rfl rfl ((fr.rf.ti (by decide)).ti (by decide))⟩
    unfold wpX11_append_94
    refine lfp1_ind (fun u _ => (u + 1).toNat) (fun u τ => (-1 ≤ u ∧ u < n) ∧ Tx τ ∧ fr [0, 2] [1] σ τ ∧ zI τ 0 0 = 0 ∧ zI τ 0 2 = zI σ 0 2 + (n - 1 - u) ∧ zA τ 0 1 = apT (zA σ 0 1) (zI σ 0 2) v n (n - 1 - u)) ?_ ⟨by omega, h.1.1, (hf0.up (by decide) (by decide)), rfl, ?_, ?_⟩
    · intro P2 u υ ⟨hu, hTu, hf, h0, hl, ht⟩ ih2
      show wpbX11_append_94 P2 v u υ Q
      unfold wpbX11_append_94
      have hu1 := hTu.1
      refine ⟨by omega, fun q => ?_, fun nq => ⟨by omega, ih2 _ _ ⟨by omega, ⟨?_, fun j j0 j1 => ?_, hTu.2.2⟩, (hf.ta (by decide)).ti (by decide), h0, ?_, ?_⟩ (by omega)⟩⟩
      · have eu : u = -1 := by omega
        rw [hl, eu, show n - 1 - (-1 : Int) = n by omega]
        refine hO ok le υ ⟨⟨hTu, ?_⟩, h.2.1.up (hf.2 16 (by decide)), h.2.2.1.up (hf.an (by decide)), h.2.2.2.1.same (hf.in (by decide)) (hf.an (by decide)), h.2.2.2.2.same (hf.in (by decide)) (hf.an (by decide))⟩ h0 (by rw [hl, eu]; omega) (by rw [ht, eu, show n - 1 - (-1 : Int) = n by omega]) hf
        have g := h.1.2
        unfold G1 G2 G3 at g ⊢
        rw [hf.1 8 (by decide), hf.1 9 (by decide), hf.1 10 (by decide), hf.1 37 (by decide), hf.1 38 (by decide), hf.1 39 (by decide), hf.1 41 (by decide), hf.1 42 (by decide), hf.2 12 (by decide), hf.2 13 (by decide), hf.2 14 (by decide), hf.2 15 (by decide), hf.2 19 (by decide), hf.2 20 (by decide), hf.2 21 (by decide), hf.2 22 (by decide), hf.2 24 (by decide), hf.2 25 (by decide), hf.2 26 (by decide), hf.2 27 (by decide), hf.2 28 (by decide), hf.2 30 (by decide), hf.2 35 (by decide)]
        exact g
      · show 0 ≤ zI υ 0 2 + 1 ∧ zI υ 0 2 + 1 ≤ 480
        omega
      · have j1' : j < zI υ 0 2 + 1 := j1
        show 32 ≤ zu (zA υ 0 1) (zI υ 0 2) (zlshr v (8 * u) % 256) j ∧ zu (zA υ 0 1) (zI υ 0 2) (zlshr v (8 * u) % 256) j ≤ 126
        by_cases e : j = zI υ 0 2
        · rw [e, pu_eq]; exact ok.2 u (by omega) (by omega)
        · rw [pu_ne e]; exact hTu.2.1 j j0 (by omega)
      · show zI υ 0 2 + 1 = zI σ 0 2 + (n - 1 - (u + -1))
        omega
      · show zu (zA υ 0 1) (zI υ 0 2) (zlshr v (8 * u) % 256) = _
        rw [ht, hl]
        have r := apT_s (h := zA σ 0 1) (l := zI σ 0 2) (v := v) (n := n) (m := n - 1 - u) (by omega)
        rw [show n - 1 - (n - 1 - u) = u by omega] at r
        rw [r, show n - 1 - u + 1 = n - 1 - (u + -1) by omega]
    · show zI σ 0 2 = zI σ 0 2 + (n - 1 - (n - 1))
      omega
    · show zA σ 0 1 = _
      rw [show n - 1 - (n - 1) = 0 by omega, apT_0]
  · by_cases e : j = w
    · rw [e]; omega
    · exact hb j x (by omega)
theorem i_drop2 {σ : ZS} {N a : Int} {Q : Int → ZS → Prop} (h : RI σ N) (ha : 0 ≤ a ∧ a ≤ 2) (hQ : ∀ (τ : ZS), RI τ N → zI τ 0 0 = 0 → zI τ 0 2 = zI σ 0 2 → zA τ 0 1 = zA σ 0 1 → zA τ 0 43 = zu (zA σ 0 43) a 0 → fr [0] [43] σ τ → Q (zA σ 0 43 a) τ) : wpX11_drop a σ Q := by
  obtain ⟨h1, h2, h3, h4, h5⟩ := h
  have hv := h3.1.2.2.2.2 a (by omega) (by omega)
  have f : fr [0] [43] σ (zsA (zsI σ 0 0 0) 0 43 a 0) := (fr.rf.ti (by decide)).ta (by decide)
  unfold wpX11_drop
  refine ⟨by omega, fun q => absurd q (by omega), fun _ => ⟨fun _ => ⟨by omega, hv, hQ _ ⟨h1.same (f.in (by decide)) (f.an (by decide)), h2.up (f.2 16 (by decide)), ⟨GM.u43 (σ := zsI σ 0 0 0) h3.1 (by decide), fun m m0 m2 => ?_⟩, h4.same (f.in (by decide)) (f.an (by decide)), h5.same (f.in (by decide)) (f.an (by decide))⟩ rfl rfl rfl rfl f⟩, fun q => absurd ha.2 q⟩⟩
  have hm := h3.2 m m0 m2
  unfold MI
  rw [f.2 44 (by decide), f.2 50 (by decide), f.2 56 (by decide), f.2 46 (by decide), f.2 47 (by decide), f.2 48 (by decide), f.2 51 (by decide), f.2 52 (by decide), f.2 53 (by decide), f.2 54 (by decide), f.2 58 (by decide), f.2 59 (by decide)]
  exact hm
/-! X: publics and externs of all modules, exactly, on both sides -/
/-- a word is public in a module before L (the class) -/
def PbC (σ : ZS) (w L : Int) : Prop := ∃ m q : Int, (0 ≤ m ∧ m < L) ∧ zI σ m 0 ≠ 0 ∧ (0 ≤ q ∧ q < zI σ m 13) ∧ zA σ m 14 q = w
theorem x_hasModules {σ : ZS} {Q : Int → ZS → Prop} (h : M3 σ) (h1 : (∃ m : Int, (0 ≤ m ∧ m ≤ 2) ∧ zI σ m 0 ≠ 0) → Q 1 σ) (h0 : (∀ m : Int, 0 ≤ m → m ≤ 2 → zI σ m 0 = 0) → Q 0 σ) : wpX3_hasModules σ Q := by
  unfold wpX3_hasModules wpX3_hasModules_2
  refine lfp1_ind (fun v _ => (3 - v).toNat) (fun v τ => τ = σ ∧ (0 ≤ v ∧ v ≤ 3) ∧ ∀ m : Int, 0 ≤ m → m < v → zI σ m 0 = 0) (fun K v τ hI ih => ?_) ⟨rfl, by decide, fun m m0 m1 => absurd m1 (by omega)⟩
  obtain ⟨e, hv, hn⟩ := hI
  rw [e]
  unfold wpbX3_hasModules_2
  refine ⟨by omega, fun _ => h0 (fun m m0 m2 => hn m m0 (by omega)), fun q => ?_⟩
  have := (h v hv.1 (by omega)).1
  refine ⟨by omega, by omega, fun z => ih _ _ ⟨rfl, by omega, fun m m0 m1 => ?_⟩ (by omega), fun nz => h1 ⟨v, by omega, nz⟩⟩
  by_cases ev : m = v
  · rw [ev]; exact z
  · exact hn m m0 (by omega)
theorem x_publicModule {σ : ZS} {w L : Int} {Q : Int → ZS → Prop} (h : M3 σ) (hL : 0 ≤ L ∧ L ≤ 3) (hw : 0 ≤ w ∧ w ≤ 4398046511103) (h1 : ∀ m q : Int, (0 ≤ m ∧ m < L) → zI σ m 0 ≠ 0 → (0 ≤ q ∧ q < zI σ m 13) → zA σ m 14 q = w → Q m σ) (h0 : ¬ PbC σ w L → Q (-1) σ) : wpX3_publicModule w L σ Q := by
  unfold wpX3_publicModule wpX3_publicModule_3
  refine lfp1_ind (fun v _ => (3 - v).toNat) (fun v τ => τ = σ ∧ (0 ≤ v ∧ v ≤ 3) ∧ (∀ m q : Int, (0 ≤ m ∧ m < v) → zI σ m 0 ≠ 0 → (0 ≤ q ∧ q < zI σ m 13) → zA σ m 14 q ≠ w)) (fun K v τ hI ih => ?_) ⟨rfl, by decide, fun m q mb => absurd mb (by omega)⟩
  obtain ⟨e, hv, hn⟩ := hI
  rw [e]
  unfold wpbX3_publicModule_3 wpX3_publicModule_39
  refine ⟨by omega, by omega, fun ge => h0 (fun ⟨m, q, mb, mt, qb, qw⟩ => hn m q (by omega) mt qb qw), fun q => ?_⟩
  have hm := h v hv.1 (by omega)
  have h13 := hm.2.2.2.1
  have on : (∀ q : Int, zI σ v 0 ≠ 0 → (0 ≤ q ∧ q < zI σ v 13) → zA σ v 14 q ≠ w) → K (v + 1) σ := by
    intro hh
    refine ih _ _ ⟨rfl, by omega, fun m q mb mt qb => ?_⟩ (by omega)
    by_cases ev : m = v
    · rw [ev] at mt qb ⊢; exact hh q mt qb
    · exact hn m q (by omega) mt qb
  exact ⟨by omega, by have := hm.1; omega, fun z => on (fun _ nz => absurd z nz), fun nz => c_publicNumber (by omega) hm hw (fun x x0 x1 xe _ => ⟨by omega, fun q => absurd x0 (by omega), fun _ => h1 v x (by omega) nz ⟨x0, x1⟩ xe⟩) (fun no => ⟨by decide, fun _ => on (fun q _ qb => no q qb.1 qb.2), fun q => absurd (by decide) q⟩)⟩
/-- no word is public twice (the class) -/
def NTc (σ : ZS) : Prop := ∀ m i : Int, (1 ≤ m ∧ m ≤ 2) → (0 ≤ i ∧ i < zI σ m 13) → ¬ PbC σ (zA σ m 14 i) m
theorem x_firstPublicTwice {σ : ZS} {Q : Int → ZS → Prop} (h : M3 σ) (h0 : NTc σ → Q (-1) σ) (h1 : ∀ x : Int, (0 ≤ x ∧ x ≤ 2) → ¬ NTc σ → Q x σ) : wpX3_firstPublicTwice σ Q := by
  unfold wpX3_firstPublicTwice wpX3_firstPublicTwice_2
  refine lfp1_ind (fun v _ => (3 - v).toNat) (fun v τ => τ = σ ∧ (1 ≤ v ∧ v ≤ 3) ∧ (∀ m i : Int, (1 ≤ m ∧ m < v) → (0 ≤ i ∧ i < zI σ m 13) → ¬ PbC σ (zA σ m 14 i) m)) (fun K v τ hI ih => ?_) ⟨rfl, by decide, fun m i mb => absurd mb (by omega)⟩
  obtain ⟨e, hv, hn⟩ := hI
  rw [e]
  unfold wpbX3_firstPublicTwice_2 wpX3_firstPublicTwice_16
  refine ⟨by omega, fun _ => h0 (fun m i mb ib => hn m i (by omega) ib), fun q => ⟨by omega, ?_⟩⟩
  have hm := h v (by omega) (by omega)
  have h13 := hm.2.2.2.1
  refine lfp1_ind (fun u _ => (24 - u).toNat) (fun u τ => τ = σ ∧ (0 ≤ u ∧ u ≤ 24) ∧ (∀ i : Int, (0 ≤ i ∧ i < u) → i < zI σ v 13 → ¬ PbC σ (zA σ v 14 i) v)) (fun K' u τ' hI' ih' => ?_) ⟨rfl, by decide, fun i ib => absurd ib (by omega)⟩
  obtain ⟨e', hu, hi⟩ := hI'
  rw [e']
  unfold wpbX3_firstPublicTwice_16
  refine ⟨by omega, by omega, by omega, fun _ => ih _ _ ⟨rfl, by omega, fun m i mb ib => ?_⟩ (by omega), fun q' => ⟨by omega, ?_⟩⟩
  · by_cases ev : m = v
    · rw [ev] at ib ⊢; exact hi i (by omega) ib.2
    · exact hn m i (by omega) ib
  have hp := (hm.2.2.2.2.2.2.2 u hu.1 (by omega)).1
  refine x_publicModule h (by omega) hp (fun m j mb mt jb jw => ⟨by omega, fun q => absurd mb.1 (by omega), fun _ => h1 _ (by omega) (fun nt => nt v u (by omega) (by omega) ⟨m, j, mb, mt, jb, jw⟩)⟩) (fun no => ⟨by decide, fun _ => ih' _ _ ⟨rfl, by omega, fun i ib il => ?_⟩ (by omega), fun q => absurd (by decide) q⟩)
  by_cases ev : i = u
  · rw [ev]; exact no
  · exact hi i (by omega) il
/-- every name from outside is public (the class) -/
def NMc (σ : ZS) : Prop := ∀ m k : Int, (0 ≤ m ∧ m ≤ 2) → (0 ≤ k ∧ k < zI σ m 7) → zA σ m 11 k < 0 → PbC σ (zA σ m 12 k) 3
theorem x_firstUnsolved {σ : ZS} {Q : Int → ZS → Prop} (h : M3 σ) (h0 : NMc σ → Q (-1) σ) (h1 : ∀ x : Int, (0 ≤ x ∧ x ≤ 2) → ¬ NMc σ → Q x σ) : wpX3_firstUnsolved σ Q := by
  unfold wpX3_firstUnsolved wpX3_firstUnsolved_2
  refine lfp1_ind (fun v _ => (3 - v).toNat) (fun v τ => τ = σ ∧ (0 ≤ v ∧ v ≤ 3) ∧ (∀ m k : Int, (0 ≤ m ∧ m < v) → (0 ≤ k ∧ k < zI σ m 7) → zA σ m 11 k < 0 → PbC σ (zA σ m 12 k) 3)) (fun K v τ hI ih => ?_) ⟨rfl, by decide, fun m k mb => absurd mb (by omega)⟩
  obtain ⟨e, hv, hn⟩ := hI
  rw [e]
  unfold wpbX3_firstUnsolved_2 wpX3_firstUnsolved_16
  refine ⟨by omega, fun _ => h0 (fun m k mb kb => hn m k (by omega) kb), fun q => ⟨by omega, ?_⟩⟩
  have hm := h v (by omega) (by omega)
  have h7 := hm.2.2.1
  refine lfp1_ind (fun u _ => (200 - u).toNat) (fun u τ => τ = σ ∧ (0 ≤ u ∧ u ≤ 200) ∧ (∀ k : Int, (0 ≤ k ∧ k < u) → k < zI σ v 7 → zA σ v 11 k < 0 → PbC σ (zA σ v 12 k) 3)) (fun K' u τ' hI' ih' => ?_) ⟨rfl, by decide, fun k kb => absurd kb (by omega)⟩
  obtain ⟨e', hu, hi⟩ := hI'
  rw [e']
  unfold wpbX3_firstUnsolved_16 wpX3_firstUnsolved_49
  refine ⟨by omega, by omega, by omega, fun _ => ih _ _ ⟨rfl, by omega, fun m k mb kb => ?_⟩ (by omega), fun q' => ?_⟩
  · by_cases ev : m = v
    · rw [ev] at kb ⊢; exact hi k (by omega) kb.2
    · exact hn m k (by omega) kb
  have hp := hm.2.2.2.2.2.2.1 u hu.1 (by omega)
  have on : (zA σ v 11 u < 0 → PbC σ (zA σ v 12 u) 3) → K' (u + 1) σ := by
    intro hh
    refine ih' _ _ ⟨rfl, by omega, fun k kb kl => ?_⟩ (by omega)
    by_cases ev : k = u
    · rw [ev]; exact hh
    · exact hi k (by omega) kl
  exact ⟨by omega, by omega, fun q => on (fun w => absurd q (by omega)), fun q => x_publicModule h (by decide) hp.2.2.2.2 (fun m j mb mt jb jw => ⟨by omega, fun _ => on (fun _ => ⟨m, j, mb, mt, jb, jw⟩), fun w => absurd mb.1 w⟩) (fun no => ⟨by decide, fun w => absurd w (by decide), fun _ => h1 _ (by omega) (fun nm => no (nm v u (by omega) (by omega) (by omega)))⟩)⟩
theorem x_hasMain {σ : ZS} {Q : Int → ZS → Prop} (h : M3 σ) (h1 : PbC σ 230192366 3 → Q 1 σ) (h0 : ¬ PbC σ 230192366 3 → Q 0 σ) : wpX3_hasMain σ Q := by
  unfold wpX3_hasMain wpX3_hasMain_16
  exact x_publicModule h (by decide) (by decide) (fun m j mb mt jb jw => ⟨by omega, fun q => absurd mb.1 (by omega), fun _ => ⟨by decide, h1 ⟨m, j, mb, mt, jb, jw⟩⟩⟩) (fun no => ⟨by decide, fun _ => ⟨by decide, h0 no⟩, fun q => absurd (by decide) q⟩)
/-- no word is public twice (the reference) -/
def NTr (ρ : ZS) : Prop := ∀ m k n j : Int, (1 ≤ m ∧ m ≤ 2) → zA ρ 0 43 m ≠ 0 → (0 ≤ k ∧ k < zA ρ 0 56 m) → (0 ≤ n ∧ n < m) → zA ρ 0 43 n ≠ 0 → (0 ≤ j ∧ j < zA ρ 0 56 n) → zA ρ 0 57 (80 * n + j) ≠ zA ρ 0 57 (80 * m + k)
theorem y_twice {σ : ZS} {Q : Int → ZS → Prop} (hA : MA σ) (h0 : NTr σ → Q (-1) σ) (h1 : ∀ r : Int, (0 ≤ r ∧ r ≤ 2) → ¬ NTr σ → Q r σ) : wpX11_twice σ Q := by
  unfold wpX11_twice wpX11_twice_2
  refine lfp1_ind (fun v _ => (3 - v).toNat) (fun v τ => τ = σ ∧ (1 ≤ v ∧ v ≤ 3) ∧ (∀ m k n j : Int, (1 ≤ m ∧ m < v) → zA σ 0 43 m ≠ 0 → (0 ≤ k ∧ k < zA σ 0 56 m) → (0 ≤ n ∧ n < m) → zA σ 0 43 n ≠ 0 → (0 ≤ j ∧ j < zA σ 0 56 n) → zA σ 0 57 (80 * n + j) ≠ zA σ 0 57 (80 * m + k))) ?_ ⟨rfl, by omega, fun m k n j mb => absurd mb (by omega)⟩
  intro P m τ ⟨he, hm, hno⟩ ih
  rw [he]
  show wpbX11_twice_2 P m σ Q
  unfold wpbX11_twice_2
  refine ⟨by omega, fun _ => h0 (fun m' k n j mb => hno m' k n j (by omega)), fun ne => ?_⟩
  have hM := (hA.2 m (by omega) (by omega)).1.2.2
  have h43 := hA.1.2.2.2.2 m (by omega) (by omega)
  unfold wpX11_twice_9
  refine lfp1_ind (fun v _ => (80 - v).toNat) (fun v τ => τ = σ ∧ (0 ≤ v ∧ v ≤ zA σ 0 56 m) ∧ (∀ k n j : Int, zA σ 0 43 m ≠ 0 → (0 ≤ k ∧ k < v) → (0 ≤ n ∧ n < m) → zA σ 0 43 n ≠ 0 → (0 ≤ j ∧ j < zA σ 0 56 n) → zA σ 0 57 (80 * n + j) ≠ zA σ 0 57 (80 * m + k))) ?_ ⟨rfl, by omega, fun k n j _ kb => absurd kb (by omega)⟩
  intro P9 k τ ⟨he9, hk, hnk⟩ ih9
  rw [he9]
  show wpbX11_twice_9 P P9 m k σ Q
  have out : zA σ 0 43 m = 0 ∨ k = zA σ 0 56 m → P (m + 1) σ := by
    intro hq
    refine ih _ _ ⟨rfl, by omega, fun m' k' n j mb mt kb => ?_⟩ (by show (3 - (m + 1)).toNat < (3 - m).toNat; omega)
    by_cases em : m' = m
    · rw [em] at mt kb ⊢
      rcases hq with q | q
      · exact absurd q mt
      · exact hnk k' n j mt (by omega)
    · exact hno m' k' n j (by omega) mt kb
  unfold wpbX11_twice_9 wpX11_twice_68
  refine ⟨by omega, by omega, by omega, fun _ => out (Or.inr (by omega)), fun ne9 => ⟨by omega, fun z => out (Or.inl z), fun nz => ?_⟩⟩
  have h57 := hA.1.2.2.1 (80 * m + k) (by omega) (by omega)
  unfold wpX11_twice_30
  refine lfp1_ind (fun v _ => (m - v).toNat) (fun v τ => τ = σ ∧ (0 ≤ v ∧ v ≤ m) ∧ (∀ n j : Int, (0 ≤ n ∧ n < v) → zA σ 0 43 n ≠ 0 → (0 ≤ j ∧ j < zA σ 0 56 n) → zA σ 0 57 (80 * n + j) ≠ zA σ 0 57 (80 * m + k))) ?_ ⟨rfl, by omega, fun n j nb => absurd nb (by omega)⟩
  intro P30 n τ ⟨he30, hn, hnn⟩ ih30
  rw [he30]
  show wpbX11_twice_30 P P9 P30 m k n σ Q
  unfold wpbX11_twice_30
  refine ⟨by omega, by omega, fun ge => ih9 _ _ ⟨rfl, by omega, fun k' n' j mt kb nb => ?_⟩ (by show (80 - (k + 1)).toNat < (80 - k).toNat; omega), fun ne30 => ⟨by omega, ?_⟩⟩
  · by_cases ek : k' = k
    · rw [ek]; exact hnn n' j (by omega)
    · exact hnk k' n' j mt (by omega) nb
  have hN := (hA.2 n (by omega) (by omega)).1.2.2
  refine s_publicIn hA ⟨hn.1, by omega⟩ h57 (fun no => ⟨by decide, fun _ => ih30 _ _ ⟨rfl, by omega, fun n' j nb nt jb => ?_⟩ (by show (m - (n + 1)).toNat < (m - n).toNat; omega), fun q => absurd (by decide) q⟩) (fun j j0 j1 nt je => ⟨by omega, fun l => absurd l (by omega), fun _ => h1 _ (by omega) (fun t => t m k n j (by omega) nz (by omega) (by omega) nt ⟨j0, j1⟩ je)⟩)
  by_cases en : n' = n
  · rw [en] at nt jb ⊢; exact no j jb.1 jb.2 nt
  · exact hnn n' j (by omega) nt jb
theorem y_missing {σ : ZS} {Q : Int → ZS → Prop} (hA : MA σ) (h0 : NoMiss σ → Q (-1) σ) (h1 : ∀ r : Int, (0 ≤ r ∧ r ≤ 2) → ¬ NoMiss σ → Q r σ) : wpX11_missing σ Q := by
  unfold wpX11_missing wpX11_missing_2
  refine lfp1_ind (fun v _ => (3 - v).toNat) (fun v τ => τ = σ ∧ (0 ≤ v ∧ v ≤ 3) ∧ (∀ m k : Int, 0 ≤ m → m < v → zA σ 0 43 m ≠ 0 → 0 ≤ k → k < zA σ 0 50 m → zA σ 0 54 (200 * m + k) < 0 → Pub σ (zA σ 0 55 (200 * m + k)))) ?_ ⟨rfl, by omega, fun m k a b => absurd b (by omega)⟩
  intro P m τ ⟨he, hm, hno⟩ ih
  rw [he]
  show wpbX11_missing_2 P m σ Q
  unfold wpbX11_missing_2
  refine ⟨by omega, fun _ => h0 (fun m k m0 m1 => hno m k m0 (by omega)), fun ne => ?_⟩
  have hM := (hA.2 m (by omega) (by omega)).1.2.1
  have h43 := hA.1.2.2.2.2 m (by omega) (by omega)
  unfold wpX11_missing_9
  refine lfp1_ind (fun v _ => (200 - v).toNat) (fun v τ => τ = σ ∧ (0 ≤ v ∧ v ≤ zA σ 0 50 m) ∧ (∀ k : Int, zA σ 0 43 m ≠ 0 → 0 ≤ k → k < v → zA σ 0 54 (200 * m + k) < 0 → Pub σ (zA σ 0 55 (200 * m + k)))) ?_ ⟨rfl, by omega, fun k _ a b => absurd b (by omega)⟩
  intro P9 k τ ⟨he9, hk, hnk⟩ ih9
  rw [he9]
  show wpbX11_missing_9 P P9 m k σ Q
  have out : zA σ 0 43 m = 0 ∨ k = zA σ 0 50 m → P (m + 1) σ := by
    intro hq
    refine ih _ _ ⟨rfl, by omega, fun m' k' a b c d e f => ?_⟩ (by show (3 - (m + 1)).toNat < (3 - m).toNat; omega)
    by_cases em : m' = m
    · rw [em] at c e f ⊢
      rcases hq with q | q
      · exact absurd q c
      · exact hnk k' c d (by omega) f
    · exact hno m' k' a (by omega) c d e f
  unfold wpbX11_missing_9 wpX11_missing_70 wpX11_missing_64
  refine ⟨by omega, by omega, by omega, fun _ => out (Or.inr (by omega)), fun ne9 => ⟨by omega, fun z => out (Or.inl z), fun nz => ?_⟩⟩
  have h54 := ((hA.2 m (by omega) (by omega)).2.2.1 k hk.1 (by omega)).2.2.2.2
  have h44 := (hA.2 m (by omega) (by omega)).1.1
  have h55 := hA.1.2.1 (200 * m + k) (by omega) (by omega)
  have next : (zA σ 0 54 (200 * m + k) < 0 → Pub σ (zA σ 0 55 (200 * m + k))) → P9 (k + 1) σ := by
    intro hq
    refine ih9 _ _ ⟨rfl, by omega, fun k' a b c d => ?_⟩ (by show (200 - (k + 1)).toNat < (200 - k).toNat; omega)
    by_cases e : k' = k
    · rw [e] at d ⊢; exact hq d
    · exact hnk k' a b (by omega) d
  refine ⟨by omega, by omega, fun g => next (fun l => absurd l (by omega)), fun ng => ?_⟩
  refine s_publicOf hA h55 (fun np => ⟨by decide, fun q => absurd q (by decide), fun _ => h1 _ (by omega) (fun nm => np (nm m k (by omega) (by omega) nz hk.1 (by omega) (by omega)))⟩) (fun m' k' hm' hk' h43' h57' => ?_)
  have hN := (hA.2 m' hm'.1 hm'.2).1.2.2
  exact ⟨by omega, fun _ => next (fun _ => ⟨m', k', hm', h43', hk', h57'⟩), fun q => absurd (by omega) q⟩
/-! X: publics and externs are alike -/
theorem RW_main : RW 1835100526 230192366 := ⟨fun j => ([109, 97, 105, 110] : List Int).getD j.toNat 0, 0, 4, by decide, by decide, by decide⟩
theorem Pub_iff {σ ρ : ZS} (hl : Alk σ ρ) {w w' : Int} (hw : RW w' w) : Pub ρ w' ↔ PbC σ w 3 := by
  constructor
  · rintro ⟨m, k, mb, mt, kb, e⟩
    have t0 : zI σ m 0 ≠ 0 := by rw [hl.2.1 m mb.1 mb.2]; exact mt
    obtain ⟨-, -, -, x, -⟩ := (hl.2.2 m mb.1 mb.2).2 t0
    obtain ⟨q, qb, qw, -, -⟩ := x k kb.1 kb.2
    exact ⟨m, q, by omega, t0, qb, (qw.iff hw).mp e⟩
  · rintro ⟨m, q, mb, mt, qb, e⟩
    obtain ⟨-, -, -, -, x, -⟩ := (hl.2.2 m mb.1 (by omega)).2 mt
    obtain ⟨k, kb, kw, -, -⟩ := x q qb.1 qb.2
    exact ⟨m, k, by omega, by rw [← hl.2.1 m mb.1 (by omega)]; exact mt, kb, (kw.iff hw).mpr e⟩
theorem NT_iff {σ ρ : ZS} (hl : Alk σ ρ) : NTc σ ↔ NTr ρ := by
  constructor
  · intro h m k n j mb mt kb nb nt jb e
    have t0 : zI σ m 0 ≠ 0 := by rw [hl.2.1 m (by omega) mb.2]; exact mt
    have t1 : zI σ n 0 ≠ 0 := by rw [hl.2.1 n nb.1 (by omega)]; exact nt
    obtain ⟨-, -, -, x, -⟩ := (hl.2.2 m (by omega) mb.2).2 t0
    obtain ⟨-, -, -, y, -⟩ := (hl.2.2 n nb.1 (by omega)).2 t1
    obtain ⟨q, qb, qw, -, -⟩ := x k kb.1 kb.2
    obtain ⟨q', qb', qw', -, -⟩ := y j jb.1 jb.2
    exact h m q mb qb ⟨n, q', nb, t1, qb', (qw'.iff qw).mp e⟩
  · rintro h m i mb ib ⟨n, q, nb, nt, qb, e⟩
    have t0 : zI σ m 0 ≠ 0 := fun z => by have := ((hl.2.2 m (by omega) mb.2).1 z).2.2; omega
    obtain ⟨-, -, -, -, x, -⟩ := (hl.2.2 m (by omega) mb.2).2 t0
    obtain ⟨-, -, -, -, y, -⟩ := (hl.2.2 n nb.1 (by omega)).2 nt
    obtain ⟨k, kb, kw, -, -⟩ := x i ib.1 ib.2
    obtain ⟨j, jb, jw, -, -⟩ := y q qb.1 qb.2
    exact h m k n j mb (by rw [← hl.2.1 m (by omega) mb.2]; exact t0) kb nb (by rw [← hl.2.1 n nb.1 (by omega)]; exact nt) jb ((jw.iff kw).mpr e)
theorem NM_iff {σ ρ : ZS} (hl : Alk σ ρ) : NMc σ ↔ NoMiss ρ := by
  constructor
  · intro h m k m0 m2 mt k0 k1 neg
    have t0 : zI σ m 0 ≠ 0 := by rw [hl.2.1 m m0 m2]; exact mt
    obtain ⟨-, -, ⟨x1, x2⟩, -⟩ := (hl.2.2 m m0 m2).2 t0
    obtain ⟨-, -, -, y4, y5⟩ := x2 k k0 (by omega)
    exact (Pub_iff hl y5).mpr (h m k ⟨m0, m2⟩ ⟨k0, by omega⟩ (by rw [← y4]; exact neg))
  · intro h m k mb kb neg
    have t0 : zI σ m 0 ≠ 0 := fun z => by have := ((hl.2.2 m mb.1 mb.2).1 z).2.1; omega
    obtain ⟨-, -, ⟨x1, x2⟩, -⟩ := (hl.2.2 m mb.1 mb.2).2 t0
    obtain ⟨-, -, -, y4, y5⟩ := x2 k kb.1 kb.2
    exact (Pub_iff hl y5).mp (h m k mb.1 mb.2 (by rw [← hl.2.1 m mb.1 mb.2]; exact t0) kb.1 (by omega) (by rw [y4]; exact neg))
/-! X: combining, as a walk over whole numbers -/
/-- the first of k names that is w, or k -/
def fF (nm : Int → Int) (w : Int) : Nat → Int
  | 0 => 0
  | k + 1 => if fF nm w k < k then fF nm w k else if nm k = w then (k : Int) else (k : Int) + 1
theorem fF_bd {nm : Int → Int} {w : Int} : ∀ k : Nat, (0 ≤ fF nm w k ∧ fF nm w k ≤ k) ∧ (∀ j : Int, 0 ≤ j → j < fF nm w k → nm j ≠ w) ∧ (fF nm w k < k → nm (fF nm w k) = w)
  | 0 => ⟨⟨Int.le_refl _, Int.le_refl _⟩, fun j j0 j1 => absurd (show j < 0 from j1) (by omega), fun q => absurd (show (0 : Int) < 0 from q) (by decide)⟩
  | k + 1 => by
    obtain ⟨h1, h2, h3⟩ := fF_bd (nm := nm) (w := w) k
    show (0 ≤ (if fF nm w k < k then fF nm w k else if nm k = w then (k : Int) else (k : Int) + 1) ∧ (if fF nm w k < k then fF nm w k else if nm k = w then (k : Int) else (k : Int) + 1) ≤ ((k + 1 : Nat) : Int)) ∧ (∀ j : Int, 0 ≤ j → j < (if fF nm w k < k then fF nm w k else if nm k = w then (k : Int) else (k : Int) + 1) → nm j ≠ w) ∧ ((if fF nm w k < k then fF nm w k else if nm k = w then (k : Int) else (k : Int) + 1) < ((k + 1 : Nat) : Int) → nm (if fF nm w k < k then fF nm w k else if nm k = w then (k : Int) else (k : Int) + 1) = w)
    by_cases a : fF nm w k < k
    · rw [if_pos a]; exact ⟨by omega, h2, fun _ => h3 a⟩
    · rw [if_neg a]
      have ek : fF nm w k = k := by omega
      rw [ek] at h2
      by_cases b : nm k = w
      · rw [if_pos b]; exact ⟨by omega, h2, fun _ => b⟩
      · rw [if_neg b]
        refine ⟨by omega, fun j j0 j1 => ?_, fun q => by omega⟩
        by_cases e : j = (k : Int)
        · rw [e]; exact b
        · exact h2 j j0 (by omega)
theorem fF_u {nm : Int → Int} {w x : Int} {k : Nat} (h0 : 0 ≤ x ∧ x ≤ k) (h1 : ∀ j : Int, 0 ≤ j → j < x → nm j ≠ w) (h2 : x < k → nm x = w) : fF nm w k = x := by
  obtain ⟨g0, g1, g2⟩ := fF_bd (nm := nm) (w := w) k
  by_cases a : fF nm w k < x
  · exact absurd (g2 (by omega)) (h1 _ g0.1 a)
  · by_cases b : x < fF nm w k
    · exact absurd (h2 (by omega)) (g1 x h0.1 b)
    · omega
theorem fF_cg {nm nm' : Int → Int} {w w' : Int} {k : Nat} (h : ∀ j : Int, 0 ≤ j → j < k → (nm j = w ↔ nm' j = w')) : fF nm w k = fF nm' w' k := by
  obtain ⟨g0, g1, g2⟩ := fF_bd (nm := nm') (w := w') k
  exact fF_u g0 (fun j j0 j1 q => g1 j j0 j1 ((h j j0 (by omega)).mp q)) (fun q => (h _ g0.1 q).mpr (g2 q))
/-- how many, names, sizes; by part: its segment, where it begins -/
def CbS : Type := Int × (Int → Int) × (Int → Int) × (Int → Int) × (Int → Int)
def CbS.n (t : CbS) : Int := t.1
def CbS.nm (t : CbS) : Int → Int := t.2.1
def CbS.sz (t : CbS) : Int → Int := t.2.2.1
def CbS.wh (t : CbS) : Int → Int := t.2.2.2.1
def CbS.bg (t : CbS) : Int → Int := t.2.2.2.2
def upA (v a : Int) : Int := (v + a - 1) / a * a
/-- part p is added -/
def cIx (W : Int → Int) (t : CbS) (p : Int) : Int := fF t.nm (W p) t.n.toNat
def cBe (W A : Int → Int) (t : CbS) (p : Int) : Int := upA (if cIx W t p = t.n then 0 else t.sz (cIx W t p)) (A p)
def cPa (W A Z : Int → Int) (t : CbS) (p : Int) : CbS := (if cIx W t p = t.n then t.n + 1 else t.n, if cIx W t p = t.n then zu t.nm t.n (W p) else t.nm, zu t.sz (cIx W t p) (cBe W A t p + Z p), zu t.wh p (cIx W t p), zu t.bg p (cBe W A t p))
def cSg (W A Z : Int → Int) (m : Int) (t : CbS) : Nat → CbS
  | 0 => t
  | k + 1 => cPa W A Z (cSg W A Z m t k) (24 * m + k)
def cT0 : CbS := (0, fun _ => 0, fun _ => 0, fun _ => 0, fun _ => 0)
/-- all parts of the modules before m -/
def cAl (W A Z C : Int → Int) : Nat → CbS
  | 0 => cT0
  | m + 1 => cSg W A Z m (cAl W A Z C m) (C m).toNat
/-- where segments end, laid one behind another -/
def pE (sz : Int → Int) : Nat → Int
  | 0 => 0
  | k + 1 => upA (pE sz k) 16 + sz k
/-- two walks over words that are alike -/
def Sim (W W' : Int → Int) (V : Int → Prop) (t t' : CbS) : Prop := (t.n = t'.n ∧ 0 ≤ t.n) ∧ t.sz = t'.sz ∧ t.wh = t'.wh ∧ t.bg = t'.bg ∧ ∃ rep : Int → Int, ∀ i : Int, 0 ≤ i → i < t.n → V (rep i) ∧ t.nm i = W (rep i) ∧ t'.nm i = W' (rep i)
theorem Sim.p {W W' A Z : Int → Int} {V : Int → Prop} (hW : ∀ p q : Int, V p → V q → (W p = W q ↔ W' p = W' q)) {t t' : CbS} (h : Sim W W' V t t') {p : Int} (hp : V p) : Sim W W' V (cPa W A Z t p) (cPa W' A Z t' p) := by
  obtain ⟨⟨e1, n0⟩, e2, e3, e4, rep, hr⟩ := h
  have ei : cIx W t p = cIx W' t' p := by
    unfold cIx
    rw [← e1]
    refine fF_cg (fun j j0 j1 => ?_)
    obtain ⟨v, a, b⟩ := hr j j0 (by omega)
    rw [a, b]; exact hW _ _ v hp
  have eb : cBe W A t p = cBe W' A t' p := by
    unfold cBe
    rw [ei, e1, e2]
  have bd := (fF_bd (nm := t.nm) (w := W p) t.n.toNat).1
  have ib : 0 ≤ cIx W t p ∧ cIx W t p ≤ t.n := by
    unfold cIx; omega
  refine ⟨?_, ?_, ?_, ?_, if cIx W t p = t.n then zu rep t.n p else rep, fun i i0 i1 => ?_⟩
  · show (if cIx W t p = t.n then t.n + 1 else t.n) = (if cIx W' t' p = t'.n then t'.n + 1 else t'.n) ∧ 0 ≤ (if cIx W t p = t.n then t.n + 1 else t.n)
    rw [← ei, ← e1]
    refine ⟨rfl, ?_⟩
    split <;> omega
  · show zu t.sz (cIx W t p) (cBe W A t p + Z p) = zu t'.sz (cIx W' t' p) (cBe W' A t' p + Z p)
    rw [ei, eb, e2]
  · show zu t.wh p (cIx W t p) = zu t'.wh p (cIx W' t' p)
    rw [ei, e3]
  · show zu t.bg p (cBe W A t p) = zu t'.bg p (cBe W' A t' p)
    rw [eb, e4]
  · have i1' : i < (if cIx W t p = t.n then t.n + 1 else t.n) := i1
    show V ((if cIx W t p = t.n then zu rep t.n p else rep) i) ∧ (if cIx W t p = t.n then zu t.nm t.n (W p) else t.nm) i = W ((if cIx W t p = t.n then zu rep t.n p else rep) i) ∧ (if cIx W' t' p = t'.n then zu t'.nm t'.n (W' p) else t'.nm) i = W' ((if cIx W t p = t.n then zu rep t.n p else rep) i)
    rw [← ei, ← e1]
    by_cases q : cIx W t p = t.n
    · rw [if_pos q] at i1' ⊢
      rw [if_pos q, if_pos q]
      by_cases e : i = t.n
      · rw [e, pu_eq, pu_eq, pu_eq]; exact ⟨hp, rfl, rfl⟩
      · rw [pu_ne e, pu_ne e, pu_ne e]; exact hr i i0 (by omega)
    · rw [if_neg q] at i1' ⊢
      rw [if_neg q, if_neg q]
      exact hr i i0 i1'
theorem Sim.s {W W' A Z : Int → Int} {V : Int → Prop} (hW : ∀ p q : Int, V p → V q → (W p = W q ↔ W' p = W' q)) {t t' : CbS} (h : Sim W W' V t t') {m : Int} : ∀ k : Nat, (∀ j : Int, 0 ≤ j → j < k → V (24 * m + j)) → Sim W W' V (cSg W A Z m t k) (cSg W' A Z m t' k)
  | 0, _ => h
  | k + 1, hv => (Sim.s hW h k (fun j j0 j1 => hv j j0 (by omega))).p hW (hv k (by omega) (by omega))
theorem Sim.a {W W' A Z C : Int → Int} {V : Int → Prop} (hW : ∀ p q : Int, V p → V q → (W p = W q ↔ W' p = W' q)) : ∀ m : Nat, (∀ i j : Int, 0 ≤ i → i < m → 0 ≤ j → j < C i → V (24 * i + j)) → Sim W W' V (cAl W A Z C m) (cAl W' A Z C m)
  | 0, _ => ⟨⟨rfl, Int.le_refl _⟩, rfl, rfl, rfl, fun _ => 0, fun i i0 i1 => absurd (show i < 0 from i1) (by omega)⟩
  | m + 1, hv => (Sim.a hW m (fun i j i0 i1 j0 j1 => hv i j i0 (by omega) j0 j1)).s hW _ (fun j j0 j1 => hv m j (by omega) (by omega) j0 (by omega))
/-! X: the class combines, exactly -/
/-- by part: word, alignment, size (the class) -/
def wC (σ : ZS) (p : Int) : Int := zA σ (p / 24) 2 (p % 24)
def aC (σ : ZS) (p : Int) : Int := zA σ (p / 24) 3 (p % 24)
def sC (σ : ZS) (p : Int) : Int := zA σ (p / 24) 4 (p % 24)
/-- the class's linker holds t -/
def CH0 (τ : ZS) (t : CbS) : Prop := zI τ 16 4 = t.n ∧ ∀ i : Int, 0 ≤ i → i < t.n → zA τ 16 1 i = t.nm i ∧ zA τ 16 2 i = t.sz i
def CH (σ τ : ZS) (a b : Int) (t : CbS) : Prop := CH0 τ t ∧ ∀ m s : Int, 0 ≤ m → m ≤ 2 → 0 ≤ s → s < zI σ m 1 → (m < a ∨ (m = a ∧ s < b)) → zA τ 16 5 (m * 24 + s) = t.wh (24 * m + s) ∧ zA τ 16 6 (m * 24 + s) = t.bg (24 * m + s)
theorem x_combinedNumber {σ τ : ZS} {a b w : Int} {t : CbS} {Q : Int → ZS → Prop} (ha : 0 ≤ a ∧ a ≤ 2) (hb : 0 ≤ b ∧ b < 24) (hc : CV σ τ a b (a * 24 + b)) (hw : 0 ≤ w ∧ w ≤ 4398046511103) (hH : CH0 τ t) (hQ : ∀ (x : Int) (υ : ZS), CV σ υ a b (a * 24 + b + 1) → (0 ≤ x ∧ x < zI υ 16 4) → x = fF t.nm w t.n.toNat → (x ≠ t.n → υ = τ) → (x = t.n → zI υ 16 4 = t.n + 1 ∧ zA υ 16 1 = zu (zA τ 16 1) t.n w ∧ zA υ 16 2 = zu (zA τ 16 2) t.n 0 ∧ zA υ 16 5 = zA τ 16 5 ∧ zA υ 16 6 = zA τ 16 6) → Q x υ) : wpX3_combinedNumber w τ Q := by
  obtain ⟨⟨k1, k2, k3, k4, k5, k6⟩, kk, kn, kc, ks⟩ := hc
  unfold wpX3_combinedNumber wpX3_combinedNumber_2
  refine lfp1_ind (fun v _ => (72 - v).toNat) (fun v υ => υ = τ ∧ (0 ≤ v ∧ v ≤ zI τ 16 4) ∧ ∀ j : Int, 0 ≤ j → j < v → zA τ 16 1 j ≠ w) (fun K v υ hI ih => ?_) ⟨rfl, ⟨by decide, k1.1⟩, fun j j0 j1 => absurd j1 (by omega)⟩
  obtain ⟨e, hv, hno⟩ := hI
  obtain ⟨hn, hf⟩ := hH
  rw [e]
  unfold wpbX3_combinedNumber_2
  refine ⟨by omega, by omega, fun q => ⟨fun lt => ⟨by omega, ?_⟩, fun ge => absurd (show zI τ 16 4 < 72 by omega) ge⟩, fun q => ⟨by omega, ?_, by omega, fun ne => ih _ _ ⟨rfl, by omega, fun j j0 j1 => ?_⟩ (by omega), fun ew => hQ v τ ⟨⟨k1, k2, k3, k4, k5, k6⟩, kk, by omega, kc, ks⟩ (by omega) (fF_u (by omega) (fun j j0 j1 => by rw [← (hf j j0 (by omega)).1]; exact hno j j0 j1) (fun _ => by rw [← (hf v hv.1 (by omega)).1]; exact ew)).symm (fun _ => rfl) (fun q2 => by omega)⟩⟩
  · refine hQ _ _ ⟨⟨?_, rng_zu k2 hw, rng_zu k3 (by decide), k4, k5, k6⟩, ((kk.ta (by decide)).ta (by decide)).ti (by decide), ?_, fun m s m0 m2 s0 s1 q' => ?_, fun c c0 c1 => ?_⟩ ?_ ?_ (fun q2 => absurd (by omega : zI τ 16 4 + 1 - 1 = t.n) q2) (fun _ => ⟨by show zI τ 16 4 + 1 = _; omega, by rw [← hn]; rfl, by rw [← hn]; rfl, rfl, rfl⟩)
    · show 0 ≤ zI τ 16 4 + 1 ∧ zI τ 16 4 + 1 ≤ 72
      omega
    · show zI τ 16 4 + 1 ≤ a * 24 + b + 1
      omega
    · obtain ⟨x1, x2⟩ := kc m s m0 m2 s0 s1 q'
      show (0 ≤ zA τ 16 5 (m * 24 + s) ∧ zA τ 16 5 (m * 24 + s) < zI τ 16 4 + 1) ∧ zA τ 16 6 (m * 24 + s) + zA σ m 4 s ≤ zu (zA τ 16 2) (zI τ 16 4) 0 (zA τ 16 5 (m * 24 + s))
      rw [pu_ne (by omega)]
      exact ⟨by omega, x2⟩
    · show zu (zA τ 16 2) (zI τ 16 4) 0 c ≤ 416 * (a * 24 + b)
      have c1' : c < zI τ 16 4 + 1 := c1
      by_cases e' : c = zI τ 16 4
      · rw [e', pu_eq]; omega
      · rw [pu_ne e']; exact ks c c0 (by omega)
    · show 0 ≤ zI τ 16 4 + 1 - 1 ∧ zI τ 16 4 + 1 - 1 < zI τ 16 4 + 1
      omega
    · exact (fF_u (by omega) (fun j j0 j1 => by rw [← (hf j j0 (by omega)).1]; exact hno j j0 (by omega)) (fun q2 => by omega)).symm
  · have := k2 v hv.1 (by omega)
    omega
  · by_cases ej : j = v
    · rw [ej]; exact ne
    · exact hno j j0 (by omega)
theorem x_addPart {σ τ : ZS} {a b : Int} {t : CbS} {Q : ZS → Prop} (hm : M3 σ) (ha : 0 ≤ a ∧ a ≤ 2) (hb : 0 ≤ b ∧ b < zI σ a 1) (hc : CV σ τ a b (a * 24 + b)) (hH : CH σ τ a b t) (hQ : ∀ υ : ZS, CV σ υ a (b + 1) (a * 24 + b + 1) → CH σ υ a (b + 1) (cPa (wC σ) (aC σ) (sC σ) t (24 * a + b)) → Q υ) : wpX3_addPart a b τ Q := by
  have mo := hm a ha.1 ha.2
  have h1 := mo.2.1
  have sg := mo.2.2.2.2.1 b hb.1 hb.2
  have na : a ∉ [(16 : Int)] := n_1 (by omega)
  have ea := hc.2.1 a na
  unfold wpX3_addPart wpX10_roundUp wpX3_part
  refine ⟨by omega, by omega, x_combinedNumber ha (by omega) hc (by rw [ob_A ea 2]; exact sg.1) hH.1 (fun x υ uc ux ex eo en => ?_)⟩
  obtain ⟨⟨k1, k2, k3, k4, k5, k6⟩, kk, kn, kc, ks⟩ := uc
  have eu := kk a na
  have zx := ks x ux.1 ux.2
  have zn := (k3 x ux.1 (by omega)).1
  rw [ob_A eu 3, z_up sg.2.1 (by omega)]
  have ub := up_bd sg.2.1 zn
  refine ⟨by omega, by omega, by omega, hQ _ ?_ ?_⟩
  rotate_left
  · have wp : wC σ (24 * a + b) = zA σ a 2 b := by unfold wC; rw [show (24 * a + b) / 24 = a by omega, show (24 * a + b) % 24 = b by omega]
    have ap : aC σ (24 * a + b) = zA σ a 3 b := by unfold aC; rw [show (24 * a + b) / 24 = a by omega, show (24 * a + b) % 24 = b by omega]
    have sp : sC σ (24 * a + b) = zA σ a 4 b := by unfold sC; rw [show (24 * a + b) / 24 = a by omega, show (24 * a + b) % 24 = b by omega]
    obtain ⟨⟨hn, hf⟩, hp⟩ := hH
    have xi : x = cIx (wC σ) t (24 * a + b) := by
      unfold cIx
      rw [wp, ex, ob_A ea 2]
    have zv : zA υ 16 2 x = (if cIx (wC σ) t (24 * a + b) = t.n then 0 else t.sz (cIx (wC σ) t (24 * a + b))) := by
      rw [← xi]
      by_cases q : x = t.n
      · rw [if_pos q, (en q).2.2.1, q, pu_eq]
      · rw [if_neg q, eo q]
        exact (hf x ux.1 (by rw [eo q] at ux; omega)).2
    have bv : (zA υ 16 2 x + zA σ a 3 b - 1) / zA σ a 3 b * zA σ a 3 b = cBe (wC σ) (aC σ) t (24 * a + b) := by
      unfold cBe upA
      rw [← zv, ap]
    have e4 : zA (zsA υ 16 5 (a * 24 + b) x) a 4 = zA σ a 4 := (zA_g (by omega)).trans (ob_A eu 4)
    rw [e4, bv]
    have n4 : zI υ 16 4 = (cPa (wC σ) (aC σ) (sC σ) t (24 * a + b)).n := by
      show _ = if cIx (wC σ) t (24 * a + b) = t.n then t.n + 1 else t.n
      rw [← xi]
      by_cases q : x = t.n
      · rw [if_pos q]; exact (en q).1
      · rw [if_neg q, eo q]; exact hn
    refine ⟨⟨n4, fun i i0 i1 => ?_⟩, fun m s m0 m2 s0 s1 q => ?_⟩
    · have i1' : i < zI υ 16 4 := by rw [n4]; exact i1
      show zA υ 16 1 i = (if cIx (wC σ) t (24 * a + b) = t.n then zu t.nm t.n (wC σ (24 * a + b)) else t.nm) i ∧ zu (zA υ 16 2) x (cBe (wC σ) (aC σ) t (24 * a + b) + zA σ a 4 b) i = zu t.sz (cIx (wC σ) t (24 * a + b)) (cBe (wC σ) (aC σ) t (24 * a + b) + sC σ (24 * a + b)) i
      rw [← xi, sp, wp]
      by_cases q : x = t.n
      · obtain ⟨z1, z2, z3, -, -⟩ := en q
        rw [if_pos q, z2, z3, ob_A ea 2]
        by_cases e : i = t.n
        · rw [e, pu_eq, pu_eq, q, pu_eq, pu_eq]; exact ⟨rfl, rfl⟩
        · have ne : i ≠ x := by omega
          rw [pu_ne e, pu_ne e, pu_ne ne, pu_ne ne, pu_ne e]
          exact hf i i0 (by omega)
      · have eu' := eo q
        rw [if_neg q, eu']
        rw [eu', hn] at i1'
        refine ⟨(hf i i0 i1').1, ?_⟩
        by_cases e : i = x
        · rw [e, pu_eq, pu_eq]
        · rw [pu_ne e, pu_ne e]; exact (hf i i0 i1').2
    · show zu (zA υ 16 5) (a * 24 + b) x (m * 24 + s) = zu t.wh (24 * a + b) (cIx (wC σ) t (24 * a + b)) (24 * m + s) ∧ zu (zA υ 16 6) (a * 24 + b) (cBe (wC σ) (aC σ) t (24 * a + b)) (m * 24 + s) = zu t.bg (24 * a + b) (cBe (wC σ) (aC σ) t (24 * a + b)) (24 * m + s)
      have hm24 := (hm m m0 m2).2.1
      have e56 : zA υ 16 5 = zA τ 16 5 ∧ zA υ 16 6 = zA τ 16 6 := by
        by_cases q : x = t.n
        · exact ⟨(en q).2.2.2.1, (en q).2.2.2.2⟩
        · rw [eo q]; exact ⟨rfl, rfl⟩
      rw [e56.1, e56.2, ← xi]
      by_cases e : m = a ∧ s = b
      · obtain ⟨rfl, rfl⟩ := e
        rw [pu_eq, pu_eq, pu_eq, pu_eq]; exact ⟨rfl, rfl⟩
      · rw [pu_ne (by omega), pu_ne (by omega), pu_ne (by omega), pu_ne (by omega)]
        exact hp m s m0 m2 s0 s1 (by omega)
  have e4 : zA (zsA υ 16 5 (a * 24 + b) x) a 4 = zA σ a 4 := (zA_g (by omega)).trans (ob_A eu 4)
  rw [e4]
  have gx : ∀ c : Int, zA υ 16 2 c ≤ zu (zA υ 16 2) x ((zA υ 16 2 x + zA σ a 3 b - 1) / zA σ a 3 b * zA σ a 3 b + zA σ a 4 b) c := by
    intro c
    by_cases e : c = x
    · rw [e, pu_eq]; omega
    · rw [pu_ne e]; exact Int.le_refl _
  refine ⟨⟨k1, k2, rng_zu k3 (by omega), k4, rng_zu k5 (by omega), rng_zu k6 (by omega)⟩, ((kk.ta (by decide)).ta (by decide)).ta (by decide), by show zI υ 16 4 ≤ a * 24 + b + 1; omega, fun m s m0 m2 s0 s1 q => ?_, fun c c0 c1 => ?_⟩
  · show (0 ≤ zu (zA υ 16 5) (a * 24 + b) x (m * 24 + s) ∧ zu (zA υ 16 5) (a * 24 + b) x (m * 24 + s) < zI υ 16 4) ∧ zu (zA υ 16 6) (a * 24 + b) ((zA υ 16 2 x + zA σ a 3 b - 1) / zA σ a 3 b * zA σ a 3 b) (m * 24 + s) + zA σ m 4 s ≤ zu (zA υ 16 2) x ((zA υ 16 2 x + zA σ a 3 b - 1) / zA σ a 3 b * zA σ a 3 b + zA σ a 4 b) (zu (zA υ 16 5) (a * 24 + b) x (m * 24 + s))
    have hm24 := (hm m m0 m2).2.1
    by_cases e : m = a ∧ s = b
    · obtain ⟨rfl, rfl⟩ := e
      rw [pu_eq, pu_eq, pu_eq]
      exact ⟨ux, Int.le_refl _⟩
    · have ne : m * 24 + s ≠ a * 24 + b := by omega
      rw [pu_ne ne, pu_ne ne]
      obtain ⟨x1, x2⟩ := kc m s m0 m2 s0 s1 (by omega)
      exact ⟨x1, Int.le_trans x2 (gx _)⟩
  · show zu (zA υ 16 2) x ((zA υ 16 2 x + zA σ a 3 b - 1) / zA σ a 3 b * zA σ a 3 b + zA σ a 4 b) c ≤ 416 * (a * 24 + (b + 1))
    by_cases e : c = x
    · rw [e, pu_eq]; omega
    · rw [pu_ne e]
      have := ks c c0 c1
      omega
theorem x_combine {σ : ZS} {Q : Int → ZS → Prop} (hm : M3 σ) (hl : LKc σ) (hQ : ∀ (x : Int) (τ : ZS), LKc τ → kp [16] σ τ → (0 ≤ x ∧ x ≤ 3000000) → PLC τ x → CH σ τ 3 0 (cAl (wC σ) (aC σ) (sC σ) (fun m => zI σ m 1) 3) → (∀ i : Int, 0 ≤ i → i < CbS.n (cAl (wC σ) (aC σ) (sC σ) (fun m => zI σ m 1) 3) → zA τ 16 3 i = upA (pE (CbS.sz (cAl (wC σ) (aC σ) (sC σ) (fun m => zI σ m 1) 3)) i.toNat) 16) → x = pE (CbS.sz (cAl (wC σ) (aC σ) (sC σ) (fun m => zI σ m 1) 3)) (CbS.n (cAl (wC σ) (aC σ) (sC σ) (fun m => zI σ m 1) 3)).toNat → Q x τ) : wpX3_combine σ Q := by
  have f49 : ∀ (τ : ZS) (t : CbS), t = (cAl (wC σ) (aC σ) (sC σ) (fun m => zI σ m 1) 3) → CV σ τ 3 0 72 → CH σ τ 3 0 t → wpX3_combine_49 0 0 τ Q := by
    intro τ t et hc hch
    rw [← et] at hQ
    unfold wpX3_combine_49
    refine lfp2_ind (fun _ v _ => (72 - v).toNat) (fun e v υ => CV σ υ 3 0 72 ∧ (0 ≤ v ∧ v ≤ zI υ 16 4) ∧ (0 ≤ e ∧ e ≤ 30000 * v) ∧ (∀ c : Int, 0 ≤ c → c < v → zA υ 16 3 c + zA υ 16 2 c ≤ e) ∧ CH σ υ 3 0 t ∧ e = pE t.sz v.toNat ∧ ∀ i : Int, 0 ≤ i → i < v → zA υ 16 3 i = upA (pE t.sz i.toNat) 16) (fun K e v υ hI ih => ?_) ⟨hc, ⟨by decide, hc.1.1.1⟩, by decide, fun c c0 c1 => absurd c0 (by omega), hch, rfl, fun i i0 i1 => absurd i1 (by omega)⟩
    obtain ⟨⟨⟨k1, k2, k3, k4, k5, k6⟩, kk, kn, kc, ks⟩, hv, he, hp, hch, hpe, hpl⟩ := hI
    unfold wpbX3_combine_49 wpX10_roundUp
    rw [z_up (a := 16) (by unfold al; decide) (by omega)]
    have ub := up_bd (a := 16) (v := e) (by unfold al; decide) he.1
    refine ⟨by omega, by omega, fun q => ?_, fun q => ⟨by omega, ih _ _ _ ⟨⟨⟨k1, k2, k3, rng_zu k4 (by omega), k5, k6⟩, kk.ta (by decide), kn, kc, ks⟩, ?_, ?_, fun c c0 c1 => ?_, hch, ?_, fun i i0 i1 => ?_⟩ (by omega)⟩⟩
    · refine hQ e υ ⟨k1, k2, k3, k4, k5, k6⟩ kk (by omega) (fun m s m0 m2 s0 s1 => ?_) hch (fun i i0 i1 => hpl i i0 (by have := hch.1.1; omega)) (by rw [hpe, show t.n = v by have := hch.1.1; omega])
      have em : ob υ m = ob σ m := kk m (n_1 (by omega))
      rw [ob_I em 1] at s1
      obtain ⟨x1, x2⟩ := kc m s m0 m2 s0 s1 (by omega)
      have := hp _ x1.1 (show zA υ 16 5 (m * 24 + s) < v by omega)
      rw [ob_A em 4]
      omega
    · show 0 ≤ v + 1 ∧ v + 1 ≤ zI υ 16 4
      omega
    · show 0 ≤ zu (zA υ 16 3) v ((e + 16 - 1) / 16 * 16) v + zA υ 16 2 v ∧ zu (zA υ 16 3) v ((e + 16 - 1) / 16 * 16) v + zA υ 16 2 v ≤ 30000 * (v + 1)
      rw [pu_eq]
      have := k3 v hv.1 (by omega)
      have := ks v hv.1 (by omega)
      omega
    · show zu (zA υ 16 3) v ((e + 16 - 1) / 16 * 16) c + zA υ 16 2 c ≤ zu (zA υ 16 3) v ((e + 16 - 1) / 16 * 16) v + zA υ 16 2 v
      rw [pu_eq]
      by_cases ec : c = v
      · rw [ec, pu_eq]; exact Int.le_refl _
      · rw [pu_ne ec]
        have := hp c c0 (by omega)
        have := (k3 v hv.1 (by omega)).1
        omega
    · show zu (zA υ 16 3) v ((e + 16 - 1) / 16 * 16) v + zA υ 16 2 v = pE t.sz (v + 1).toNat
      rw [pu_eq, (hch.1.2 v hv.1 (by have := hch.1.1; omega)).2, show (v + 1).toNat = v.toNat + 1 by omega]
      show _ = upA (pE t.sz v.toNat) 16 + t.sz (v.toNat : Int)
      rw [show ((v.toNat : Nat) : Int) = v by omega, ← hpe]
      rfl
    · show zu (zA υ 16 3) v ((e + 16 - 1) / 16 * 16) i = _
      by_cases ei : i = v
      · rw [ei, pu_eq, ← hpe]; rfl
      · rw [pu_ne ei]; exact hpl i i0 (by omega)
  unfold wpX3_combine wpX3_combine_7
  refine lfp1_ind (fun v _ => (3 - v).toNat) (fun v τ => CV σ τ v 0 (v * 24) ∧ (0 ≤ v ∧ v ≤ 3) ∧ CH σ τ v 0 (cAl (wC σ) (aC σ) (sC σ) (fun m => zI σ m 1) v.toNat)) (fun K v τ hI ih => ?_) ⟨⟨⟨(show (0 : Int) ≤ 0 ∧ (0 : Int) ≤ 72 by decide), hl.2⟩, kp.i (by decide), (show (0 : Int) ≤ 0 * 24 by decide), fun m s m0 m2 s0 s1 q => absurd s0 (by omega), fun c c0 c1 => absurd (show c < 0 from c1) (by omega)⟩, by decide, ⟨rfl, fun i i0 i1 => absurd (show i < 0 from i1) (by omega)⟩, fun m s m0 m2 s0 s1 q => absurd m0 (by omega)⟩
  obtain ⟨cv, hv, ch⟩ := hI
  unfold wpbX3_combine_7 wpX3_combine_14
  refine ⟨by omega, fun q => f49 τ _ rfl (by rw [show v = 3 by omega] at cv; exact cv) (by rw [show v = 3 by omega] at ch; exact ch), fun q => ?_⟩
  have mo := (hm v hv.1 (by omega)).2.1
  refine lfp1_ind (fun u _ => (24 - u).toNat) (fun u υ => CV σ υ v u (v * 24 + u) ∧ (0 ≤ u ∧ u ≤ zI σ v 1) ∧ CH σ υ v u (cSg (wC σ) (aC σ) (sC σ) v (cAl (wC σ) (aC σ) (sC σ) (fun m => zI σ m 1) v.toNat) u.toNat)) (fun K' u υ hI' ih' => ?_) ⟨by rw [Int.add_zero]; exact cv, ⟨by decide, mo.1⟩, ch⟩
  obtain ⟨uv, ⟨u0, u1⟩, uch⟩ := hI'
  have eu := uv.2.1 v (n_1 (by omega))
  have e1 := ob_I eu 1
  unfold wpbX3_combine_14
  refine ⟨by omega, by omega, by omega, fun q' => ih _ _ ⟨?_, by omega, ?_⟩ (by omega), fun q' => x_addPart hm (by omega) ⟨u0, by omega⟩ uv uch (fun ω wv wch => ih' _ _ ⟨by rw [← Int.add_assoc]; exact wv, ⟨by omega, by omega⟩, ?_⟩ (by omega))⟩
  rotate_left
  · rw [show (v + 1).toNat = v.toNat + 1 by omega]
    show CH σ υ (v + 1) 0 (cSg (wC σ) (aC σ) (sC σ) (v.toNat : Int) (cAl (wC σ) (aC σ) (sC σ) (fun m => zI σ m 1) v.toNat) (zI σ (v.toNat : Int) 1).toNat)
    rw [show ((v.toNat : Nat) : Int) = v by omega, show zI σ v 1 = u by omega]
    refine ⟨uch.1, fun m s m0 m2 s0 s1 q2 => uch.2 m s m0 m2 s0 s1 ?_⟩
    rcases q2 with q2 | q2
    · by_cases em : m = v
      · refine Or.inr ⟨em, ?_⟩
        rw [em] at s1
        omega
      · exact Or.inl (by omega)
    · exact absurd s0 (by omega)
  · rw [show (u + 1).toNat = u.toNat + 1 by omega]
    show CH σ ω v (u + 1) (cPa (wC σ) (aC σ) (sC σ) (cSg (wC σ) (aC σ) (sC σ) v (cAl (wC σ) (aC σ) (sC σ) (fun m => zI σ m 1) v.toNat) u.toNat) (24 * v + (u.toNat : Int)))
    rw [show ((u.toNat : Nat) : Int) = u by omega]
    exact wch
  obtain ⟨l1, l2, l3, l4, l5⟩ := uv
  refine ⟨l1, l2, by omega, fun m s m0 m2 s0 s1 q2 => l4 m s m0 m2 s0 s1 ?_, fun c c0 c1 => by have := l5 c c0 c1; omega⟩
  rcases q2 with q2 | q2
  · by_cases em : m = v
    · refine Or.inr ⟨em, ?_⟩
      rw [em] at s1
      omega
    · exact Or.inl (by omega)
  · exact absurd s0 (by omega)
/-! Y: the reference combines, exactly -/
/-- how many segments of a module count -/
def cR (σ : ZS) (m : Int) : Int := if zA σ 0 43 m = 0 then 0 else zA σ 0 44 m
def RH (σ τ : ZS) (a b : Int) (t : CbS) : Prop := (zI τ 0 73 = t.n ∧ ∀ i : Int, 0 ≤ i → i < t.n → zA τ 0 68 i = t.nm i ∧ zA τ 0 69 i = t.sz i) ∧ ∀ m s : Int, 0 ≤ m → m ≤ 2 → 0 ≤ s → s < zA σ 0 44 m → zA σ 0 43 m ≠ 0 → (m < a ∨ (m = a ∧ s < b)) → zA τ 0 71 (24 * m + s) = t.wh (24 * m + s) ∧ zA τ 0 72 (24 * m + s) = t.bg (24 * m + s)
theorem y_combine {σ : ZS} {Q : ZS → Prop} (hA : MA σ) (hQ : ∀ τ : ZS, fr [73] CA σ τ → CB τ → RH σ τ 3 0 (cAl (zA σ 0 45) (zA σ 0 46) (zA σ 0 48) (cR σ) 3) → (∀ i : Int, 0 ≤ i → i < CbS.n (cAl (zA σ 0 45) (zA σ 0 46) (zA σ 0 48) (cR σ) 3) → zA τ 0 70 i = upA (pE (CbS.sz (cAl (zA σ 0 45) (zA σ 0 46) (zA σ 0 48) (cR σ) 3)) i.toNat) 16) → zA τ 0 67 0 = pE (CbS.sz (cAl (zA σ 0 45) (zA σ 0 46) (zA σ 0 48) (cR σ) 3)) (CbS.n (cAl (zA σ 0 45) (zA σ 0 46) (zA σ 0 48) (cR σ) 3)).toNat → Q τ) : wpX11_combine σ Q := by
  have f195 : ∀ (τ : ZS) (t : CbS), t = (cAl (zA σ 0 45) (zA σ 0 46) (zA σ 0 48) (cR σ) 3) → Cmb σ τ 72 → Done σ τ 3 0 → RH σ τ 3 0 t → wpX11_combine_195 0 0 τ Q := by
    intro τ0 t et h0 hD0 hr0
    rw [← et] at hQ
    unfold wpX11_combine_195
    refine lfp2_ind (fun _ v _ => (zI τ0 0 73 - v).toNat) (fun e v τ => fr [] [70] τ0 τ ∧ (0 ≤ v ∧ v ≤ zI τ0 0 73) ∧ (0 ≤ e ∧ e ≤ 30000 * v) ∧ (∀ j : Int, 0 ≤ j → j < v → 0 ≤ zA τ 0 70 j ∧ zA τ 0 70 j + zA τ0 0 69 j ≤ e) ∧ e = pE t.sz v.toNat ∧ ∀ i : Int, 0 ≤ i → i < v → zA τ 0 70 i = upA (pE t.sz i.toNat) 16) ?_ ⟨fr.rf, by have := h0.2.1; omega, by omega, fun j a b => absurd b (by omega), rfl, fun i i0 i1 => absurd i1 (by omega)⟩
    intro P e v τ ⟨hf, hv, he, hj, hpe, hpl⟩ ih
    show wpbX11_combine_195 P e v τ Q
    have i73 : zI τ 0 73 = zI τ0 0 73 := hf.1 73 (by simp)
    have a69 : zA τ 0 69 = zA τ0 0 69 := hf.2 69 (by decide)
    have h73 := h0.2.1
    unfold wpbX11_combine_195
    rw [i73, a69]
    refine ⟨by omega, by omega, fun q => ?_, fun nq => ?_⟩
    · have hev : v = zI τ0 0 73 := by omega
      have hff : fr [73] CA σ (zsA τ 0 67 0 e) := (h0.1.tr (hf.up (by decide) (by decide))).ta (by decide)
      refine hQ _ hff ⟨?_, fun m s m0 m1 s0 s1 h43 => ?_, fun j j0 j1 => ?_, ?_⟩ ⟨⟨?_, fun i i0 i1 => ?_⟩, fun m s m0 m1 s0 s1 h43 q => ?_⟩ (fun i i0 i1 => hpl i i0 (by have := hr0.1.1; omega)) ?_
      · show 0 ≤ zI τ 0 73 ∧ zI τ 0 73 ≤ 72
        rw [i73]; exact h73
      · rw [hff.2 44 (by decide)] at s1
        rw [hff.2 43 (by decide)] at h43
        have hd := hD0 m s m0 m1 s0 s1 h43 (Or.inl (by omega))
        show (0 ≤ zA τ 0 71 (24 * m + s) ∧ zA τ 0 71 (24 * m + s) < zI τ 0 73) ∧ 0 ≤ zA τ 0 72 (24 * m + s) ∧ zA τ 0 72 (24 * m + s) + zA τ 0 48 (24 * m + s) ≤ zA τ 0 69 (zA τ 0 71 (24 * m + s))
        rw [i73, a69, hf.2 71 (by decide), hf.2 72 (by decide), hf.2 48 (by decide), h0.1.2 48 (by decide)]
        exact hd
      · have j1' : j < zI τ0 0 73 := by
          have : j < zI τ 0 73 := j1
          omega
        show (0 ≤ zA τ 0 69 j ∧ zA τ 0 69 j ≤ 30000) ∧ 0 ≤ zA τ 0 70 j ∧ zA τ 0 70 j + zA τ 0 69 j ≤ zu (zA τ 0 67) 0 e 0
        rw [pu_eq, a69]
        have h1 := (h0.2.2 j j0 j1').1
        have h2 := hj j j0 (by omega)
        omega
      · show 0 ≤ zu (zA τ 0 67) 0 e 0 ∧ zu (zA τ 0 67) 0 e 0 ≤ 3000000
        rw [pu_eq]; omega
      · show zI τ 0 73 = t.n
        rw [i73]; exact hr0.1.1
      · show zA τ 0 68 i = t.nm i ∧ zA τ 0 69 i = t.sz i
        rw [a69, hf.2 68 (by decide)]; exact hr0.1.2 i i0 i1
      · show zA τ 0 71 (24 * m + s) = t.wh (24 * m + s) ∧ zA τ 0 72 (24 * m + s) = t.bg (24 * m + s)
        rw [hf.2 71 (by decide), hf.2 72 (by decide)]
        exact hr0.2 m s m0 m1 s0 s1 h43 q
      · show zu (zA τ 0 67) 0 e 0 = _
        rw [pu_eq, hpe, show t.n = v by have := hr0.1.1; omega]
    · have h69 := (h0.2.2 v hv.1 (by omega)).1
      have ez : zA (zsA τ 0 70 v ((e + 15) / 16 * 16)) 0 70 v = (e + 15) / 16 * 16 := pu_eq (h := zA τ 0 70)
      rw [ez]
      refine ⟨by omega, by omega, ih _ _ _ ⟨hf.ta (by decide), by omega, by omega, fun j j0 j1 => ?_, ?_, fun i i0 i1 => ?_⟩ (by show (zI τ0 0 73 - (v + 1)).toNat < (zI τ0 0 73 - v).toNat; omega)⟩
      rotate_left
      · rw [(hr0.1.2 v hv.1 (by have := hr0.1.1; omega)).2, show (v + 1).toNat = v.toNat + 1 by omega]
        show _ = upA (pE t.sz v.toNat) 16 + t.sz (v.toNat : Int)
        rw [show ((v.toNat : Nat) : Int) = v by omega, ← hpe]
        unfold upA
        rw [show e + 16 - 1 = e + 15 by omega]
      · show zu (zA τ 0 70) v ((e + 15) / 16 * 16) i = _
        by_cases ei : i = v
        · rw [ei, pu_eq, ← hpe]; unfold upA; rw [show e + 16 - 1 = e + 15 by omega]
        · rw [pu_ne ei]; exact hpl i i0 (by omega)
      show 0 ≤ zu (zA τ 0 70) v ((e + 15) / 16 * 16) j ∧ zu (zA τ 0 70) v ((e + 15) / 16 * 16) j + zA τ0 0 69 j ≤ _
      by_cases ej : j = v
      · rw [ej, pu_eq]; omega
      · rw [pu_ne ej]
        have := hj j j0 (by omega)
        omega
  unfold wpX11_combine wpX11_combine_7
  refine lfp1_ind (fun v _ => (3 - v).toNat) (fun v τ => (0 ≤ v ∧ v ≤ 3) ∧ Cmb σ τ (24 * v) ∧ Done σ τ v 0 ∧ RH σ τ v 0 (cAl (zA σ 0 45) (zA σ 0 46) (zA σ 0 48) (cR σ) v.toNat)) ?_ ⟨by omega, ⟨fr.i (by decide), by show 0 ≤ (0 : Int) ∧ (0 : Int) ≤ 24 * 0; decide, fun j a b => absurd b (by show ¬ j < 0; omega)⟩, fun m s m0 m1 s0 s1 h43 q => by omega, ⟨rfl, fun i i0 i1 => absurd (show i < 0 from i1) (by omega)⟩, fun m s m0 m1 s0 s1 h43 q => by omega⟩
  intro P m τ ⟨hm, hC, hD, hH⟩ ih
  show wpbX11_combine_7 P m τ Q
  unfold wpbX11_combine_7
  refine ⟨by omega, fun q => ?_, fun nq => ?_⟩
  · have e3 : m = 3 := by omega
    rw [e3] at hC hD hH
    exact f195 τ _ rfl hC hD hH
  have hMI := hA.2 m hm.1 (by omega)
  have hM := hMI.1.1
  have h43 := hA.1.2.2.2.2 m hm.1 (by omega)
  unfold wpX11_combine_14
  refine lfp1_ind (fun v _ => (24 - v).toNat) (fun v τ => (0 ≤ v ∧ v ≤ zA σ 0 44 m) ∧ Cmb σ τ (24 * m + v) ∧ Done σ τ m v ∧ RH σ τ m v (cSg (zA σ 0 45) (zA σ 0 46) (zA σ 0 48) m (cAl (zA σ 0 45) (zA σ 0 46) (zA σ 0 48) (cR σ) m.toNat) v.toNat) ∧ (zA σ 0 43 m = 0 → v = 0)) ?_ ⟨by omega, by rw [Int.add_zero]; exact hC, hD, hH, fun _ => rfl⟩
  intro P14 s τ1 ⟨hs, hC1, hD1, hH1, hz1⟩ ih14
  generalize et : cSg (zA σ 0 45) (zA σ 0 46) (zA σ 0 48) m (cAl (zA σ 0 45) (zA σ 0 46) (zA σ 0 48) (cR σ) m.toNat) s.toNat = t at hH1
  show wpbX11_combine_14 P P14 m s τ1 Q
  unfold wpbX11_combine_14 wpX11_combine_185
  have b := hC1.1.2
  have out : zA σ 0 43 m = 0 ∨ s = zA σ 0 44 m → P (m + 1) τ1 := by
    intro hq
    refine ih _ _ ⟨by omega, hC1.mo (by omega), fun m' s' m0 m1 s0 s1 h q => ?_, ?_⟩ (by show (3 - (m + 1)).toNat < (3 - m).toNat; omega)
    rotate_left
    · have ec : (cR σ m).toNat = s.toNat := by
        unfold cR
        rcases hq with z | z
        · rw [if_pos z, hz1 z]
        · by_cases z0 : zA σ 0 43 m = 0
          · rw [if_pos z0, hz1 z0]
          · rw [if_neg z0, ← z]
      rw [show (m + 1).toNat = m.toNat + 1 by omega]
      show RH σ τ1 (m + 1) 0 (cSg (zA σ 0 45) (zA σ 0 46) (zA σ 0 48) (m.toNat : Int) (cAl (zA σ 0 45) (zA σ 0 46) (zA σ 0 48) (cR σ) m.toNat) (cR σ (m.toNat : Int)).toNat)
      rw [show ((m.toNat : Nat) : Int) = m by omega, ec, et]
      refine ⟨hH1.1, fun m' s' m0 m1 s0 s1 h q => hH1.2 m' s' m0 m1 s0 s1 h ?_⟩
      by_cases em : m' = m
      · rw [em] at s1 h
        rcases hq with z | z
        · exact absurd z h
        · exact Or.inr ⟨em, by omega⟩
      · exact Or.inl (by omega)
    refine hD1 m' s' m0 m1 s0 s1 h ?_
    by_cases em : m' = m
    · rw [em] at s1 h
      rcases hq with z | z
      · exact absurd z h
      · exact Or.inr ⟨em, by omega⟩
    · exact Or.inl (by omega)
  rw [b 44 (by decide), b 43 (by decide)]
  refine ⟨by omega, by omega, by omega, fun _ => out (Or.inr (by omega)), fun ne => ⟨by omega, fun z => out (Or.inl z), fun nz => ?_⟩⟩
  have hsg := hMI.2.1 s hs.1 (by omega)
  have h45 := hA.1.1 (24 * m + s) (by omega) (by omega)
  -- the piece takes its place
  have f115 : ∀ (j : Int) (υ : ZS), (0 ≤ j ∧ j < zI υ 0 73) → Cmb σ υ (24 * m + s + 1) → (zA υ 0 69 j ≤ 415 * (24 * m + s)) → Done σ υ m s → j = cIx (zA σ 0 45) t (24 * m + s) → zA υ 0 69 j = (if j = t.n then 0 else t.sz j) → zI υ 0 73 = (if j = t.n then t.n + 1 else t.n) → (∀ i : Int, 0 ≤ i → i < zI υ 0 73 → zA υ 0 68 i = (if j = t.n then zu t.nm t.n (zA σ 0 45 (24 * m + s)) else t.nm) i ∧ (i ≠ j → zA υ 0 69 i = t.sz i)) → zA υ 0 71 = zA τ1 0 71 → zA υ 0 72 = zA τ1 0 72 → wpX11_combine_115 P P14 m s (24 * m + s) j υ Q := by
    intro j υ hj hCu h69u hDu xj x69 x73 x68 x71 x72
    have bu := hCu.1.2
    have hju := hCu.2.2 j hj.1 hj.2
    have hN := hCu.2.1
    have hal := al_bd hju.1.1 hsg.2.2.2
    have e72 : zA (zsA (zsA υ 0 71 (24 * m + s) j) 0 72 (24 * m + s) ((zA υ 0 69 j + zA σ 0 46 (24 * m + s) - 1) / zA σ 0 46 (24 * m + s) * zA σ 0 46 (24 * m + s))) 0 72 (24 * m + s) = (zA υ 0 69 j + zA σ 0 46 (24 * m + s) - 1) / zA σ 0 46 (24 * m + s) * zA σ 0 46 (24 * m + s) := pu_eq (h := zA υ 0 72)
    unfold wpX11_combine_115
    rw [bu 46 (by decide), bu 48 (by decide), e72]
    obtain ⟨A, hAe⟩ : ∃ A, A = (zA υ 0 69 j + zA σ 0 46 (24 * m + s) - 1) / zA σ 0 46 (24 * m + s) * zA σ 0 46 (24 * m + s) := ⟨_, rfl⟩
    rw [← hAe] at hal ⊢
    refine ⟨by omega, by omega, by omega, by omega, ih14 _ _ ⟨by omega, ⟨((hCu.1.ta (by decide)).ta (by decide)).ta (by decide), ?_, fun i i0 i1 => ?_⟩, fun m' s' m0 m1 s0 s1 h q => ?_, ?_, fun z => absurd z nz⟩ (by show (24 - (s + 1)).toNat < (24 - s).toNat; omega)⟩
    · show 0 ≤ zI υ 0 73 ∧ zI υ 0 73 ≤ 24 * m + (s + 1)
      omega
    · have hi := hCu.2.2 i i0 i1
      show (0 ≤ zu (zA υ 0 69) j (A + zA σ 0 48 (24 * m + s)) i ∧ zu (zA υ 0 69) j (A + zA σ 0 48 (24 * m + s)) i ≤ 415 * (24 * m + (s + 1))) ∧ _
      refine ⟨?_, hi.2⟩
      by_cases e : i = j
      · rw [e, pu_eq]; omega
      · rw [pu_ne e]; omega
    · show (0 ≤ zu (zA υ 0 71) (24 * m + s) j (24 * m' + s') ∧ zu (zA υ 0 71) (24 * m + s) j (24 * m' + s') < zI υ 0 73) ∧ 0 ≤ zu (zA υ 0 72) (24 * m + s) A (24 * m' + s') ∧ zu (zA υ 0 72) (24 * m + s) A (24 * m' + s') + zA σ 0 48 (24 * m' + s') ≤ zu (zA υ 0 69) j (A + zA σ 0 48 (24 * m + s)) (zu (zA υ 0 71) (24 * m + s) j (24 * m' + s'))
      have h24 := (hA.2 m' m0 m1).1.1
      by_cases e : 24 * m' + s' = 24 * m + s
      · rw [e, pu_eq, pu_eq, pu_eq]
        exact ⟨hj, by omega, Int.le_refl _⟩
      · rw [pu_ne e, pu_ne e]
        have hd := hDu m' s' m0 m1 s0 s1 h (by omega)
        refine ⟨hd.1, hd.2.1, ?_⟩
        by_cases e2 : zA υ 0 71 (24 * m' + s') = j
        · rw [e2, pu_eq]
          rw [e2] at hd
          omega
        · rw [pu_ne e2]; exact hd.2.2
    · rw [show (s + 1).toNat = s.toNat + 1 by omega]
      show RH σ _ m (s + 1) (cPa (zA σ 0 45) (zA σ 0 46) (zA σ 0 48) (cSg (zA σ 0 45) (zA σ 0 46) (zA σ 0 48) m (cAl (zA σ 0 45) (zA σ 0 46) (zA σ 0 48) (cR σ) m.toNat) s.toNat) (24 * m + (s.toNat : Int)))
      rw [show ((s.toNat : Nat) : Int) = s by omega, et]
      have bv : A = cBe (zA σ 0 45) (zA σ 0 46) t (24 * m + s) := by
        unfold cBe upA
        rw [← xj, ← x69]; exact hAe
      refine ⟨⟨?_, fun i i0 i1 => ?_⟩, fun m' s' m0 m1 s0 s1 h q => ?_⟩
      · show zI υ 0 73 = if cIx (zA σ 0 45) t (24 * m + s) = t.n then t.n + 1 else t.n
        rw [← xj]; exact x73
      · have i1' : i < (if cIx (zA σ 0 45) t (24 * m + s) = t.n then t.n + 1 else t.n) := i1
        rw [← xj, ← x73] at i1'
        show zA υ 0 68 i = (if cIx (zA σ 0 45) t (24 * m + s) = t.n then zu t.nm t.n (zA σ 0 45 (24 * m + s)) else t.nm) i ∧ zu (zA υ 0 69) j (A + zA σ 0 48 (24 * m + s)) i = zu t.sz (cIx (zA σ 0 45) t (24 * m + s)) (cBe (zA σ 0 45) (zA σ 0 46) t (24 * m + s) + zA σ 0 48 (24 * m + s)) i
        rw [← xj, ← bv]
        refine ⟨(x68 i i0 i1').1, ?_⟩
        by_cases e : i = j
        · rw [e, pu_eq, pu_eq]
        · rw [pu_ne e, pu_ne e]; exact (x68 i i0 i1').2 e
      · show zu (zA υ 0 71) (24 * m + s) j (24 * m' + s') = zu t.wh (24 * m + s) (cIx (zA σ 0 45) t (24 * m + s)) (24 * m' + s') ∧ zu (zA υ 0 72) (24 * m + s) A (24 * m' + s') = zu t.bg (24 * m + s) (cBe (zA σ 0 45) (zA σ 0 46) t (24 * m + s)) (24 * m' + s')
        have h24 := (hA.2 m' m0 m1).1.1
        rw [← xj, ← bv, x71, x72]
        by_cases e : 24 * m' + s' = 24 * m + s
        · rw [e, pu_eq, pu_eq, pu_eq, pu_eq]; exact ⟨rfl, rfl⟩
        · rw [pu_ne e, pu_ne e, pu_ne e, pu_ne e]
          exact hH1.2 m' s' m0 m1 s0 s1 h (by omega)
  have f75 : ∀ j : Int, (0 ≤ j ∧ j ≤ zI τ1 0 73) → (∀ i : Int, 0 ≤ i → i < j → zA τ1 0 68 i ≠ zA σ 0 45 (24 * m + s)) → (j < zI τ1 0 73 → zA τ1 0 68 j = zA σ 0 45 (24 * m + s)) → wpX11_combine_75 P P14 m s (24 * m + s) j τ1 Q := by
    intro j hj hn0 hn1
    have e73 := hH1.1.1
    have xj : j = cIx (zA σ 0 45) t (24 * m + s) := by
      unfold cIx
      exact (fF_u (by omega) (fun i i0 i1 => by rw [← (hH1.1.2 i i0 (by omega)).1]; exact hn0 i i0 i1) (fun q => by rw [← (hH1.1.2 j hj.1 (by omega)).1]; exact hn1 (by omega))).symm
    have hN := hC1.2.1
    unfold wpX11_combine_75
    rw [b 45 (by decide)]
    refine ⟨by omega, by omega, fun nj => f115 j τ1 (by omega) (hC1.mo (by omega)) (by have := hC1.2.2 j hj.1 (by omega); omega) hD1 xj (by rw [if_neg (by omega)]; exact (hH1.1.2 j hj.1 (by omega)).2) (by rw [if_neg (by omega)]; exact e73) (fun i i0 i1 => by rw [if_neg (by omega)]; exact ⟨(hH1.1.2 i i0 (by omega)).1, fun _ => (hH1.1.2 i i0 (by omega)).2⟩) rfl rfl, fun ej => ⟨by omega, by omega, ?_⟩⟩
    refine f115 j _ ?_ ⟨(((hC1.1.ta (by decide)).ta (by decide)).ti (by decide)), ?_, fun i i0 i1 => ?_⟩ ?_ (fun m' s' m0 m1 s0 s1 h q => ?_) xj ?_ ?_ (fun i i0 i1 => ?_) rfl rfl
    · show 0 ≤ j ∧ j < zI τ1 0 73 + 1
      omega
    · show 0 ≤ zI τ1 0 73 + 1 ∧ zI τ1 0 73 + 1 ≤ 24 * m + s + 1
      omega
    · have i1' : i < zI τ1 0 73 + 1 := i1
      show (0 ≤ zu (zA τ1 0 69) j 0 i ∧ zu (zA τ1 0 69) j 0 i ≤ 415 * (24 * m + s + 1)) ∧ (0 ≤ zu (zA τ1 0 68) j (zA σ 0 45 (24 * m + s)) i ∧ zu (zA τ1 0 68) j (zA σ 0 45 (24 * m + s)) i ≤ 72057594037927936)
      by_cases e : i = j
      · rw [e, pu_eq, pu_eq]; omega
      · rw [pu_ne e, pu_ne e]
        have := hC1.2.2 i i0 (by omega)
        omega
    · show zu (zA τ1 0 69) j 0 j ≤ 415 * (24 * m + s)
      rw [pu_eq]; omega
    · have hd := hD1 m' s' m0 m1 s0 s1 h q
      show (0 ≤ zA τ1 0 71 (24 * m' + s') ∧ zA τ1 0 71 (24 * m' + s') < zI τ1 0 73 + 1) ∧ 0 ≤ zA τ1 0 72 (24 * m' + s') ∧ zA τ1 0 72 (24 * m' + s') + zA σ 0 48 (24 * m' + s') ≤ zu (zA τ1 0 69) j 0 (zA τ1 0 71 (24 * m' + s'))
      rw [pu_ne (by omega)]
      exact ⟨by omega, hd.2⟩
    · show zu (zA τ1 0 69) j 0 j = _
      rw [pu_eq, if_pos (by omega)]
    · show zI τ1 0 73 + 1 = _
      rw [if_pos (by omega)]; omega
    · have i1' : i < zI τ1 0 73 + 1 := i1
      show zu (zA τ1 0 68) j (zA σ 0 45 (24 * m + s)) i = _ ∧ (i ≠ j → zu (zA τ1 0 69) j 0 i = t.sz i)
      rw [if_pos (by omega), show t.n = j by omega]
      by_cases e : i = j
      · rw [e, pu_eq, pu_eq]; exact ⟨rfl, fun q => absurd rfl q⟩
      · rw [pu_ne e, pu_ne e, pu_ne e]; exact ⟨(hH1.1.2 i i0 (by omega)).1, fun _ => (hH1.1.2 i i0 (by omega)).2⟩
  unfold wpX11_combine_43
  refine lfp1_ind (fun v _ => (zI τ1 0 73 - v).toNat) (fun v τ => τ = τ1 ∧ (0 ≤ v ∧ v ≤ zI τ1 0 73) ∧ ∀ i : Int, 0 ≤ i → i < v → zA τ1 0 68 i ≠ zA σ 0 45 (24 * m + s)) ?_ ⟨rfl, by have := hC1.2.1; omega, fun i i0 i1 => absurd i1 (by omega)⟩
  intro P43 j τ2 ⟨he, hj, hno⟩ ih43
  rw [he]
  show wpbX11_combine_43 P P14 P43 m s (24 * m + s) j τ1 Q
  have hN := hC1.2.1
  unfold wpbX11_combine_43
  rw [b 45 (by decide)]
  refine ⟨by omega, by omega, fun _ => f75 j hj hno (fun q => by omega), fun nj => ?_⟩
  have h68 := (hC1.2.2 j hj.1 (by omega)).2
  exact ⟨by omega, by omega, by omega, by omega, fun ew => f75 j hj hno (fun _ => ew), fun nw => ih43 _ _ ⟨rfl, by omega, fun i i0 i1 => by
    by_cases e : i = j
    · rw [e]; exact nw
    · exact hno i i0 (by omega)⟩ (by show (zI τ1 0 73 - (j + 1)).toNat < (zI τ1 0 73 - j).toNat; omega)⟩
/-! X: both sides combine alike -/
theorem cPa_cg {W A A' Z Z' : Int → Int} {t : CbS} {p : Int} (h : A p = A' p) (k : Z p = Z' p) : cPa W A Z t p = cPa W A' Z' t p := by
  unfold cPa cBe
  rw [h, k]
theorem cSg_cg {W A A' Z Z' : Int → Int} {m : Int} {t : CbS} : ∀ k : Nat, (∀ j : Int, 0 ≤ j → j < k → A (24 * m + j) = A' (24 * m + j) ∧ Z (24 * m + j) = Z' (24 * m + j)) → cSg W A Z m t k = cSg W A' Z' m t k
  | 0, _ => rfl
  | k + 1, h => by
    show cPa W A Z (cSg W A Z m t k) (24 * m + k) = cPa W A' Z' (cSg W A' Z' m t k) (24 * m + k)
    rw [cSg_cg k (fun j j0 j1 => h j j0 (by omega))]
    exact cPa_cg (h k (by omega) (by omega)).1 (h k (by omega) (by omega)).2
theorem cAl_cg {W A A' Z Z' C C' : Int → Int} : ∀ m : Nat, (∀ i : Int, 0 ≤ i → i < m → C i = C' i) → (∀ i j : Int, 0 ≤ i → i < m → 0 ≤ j → j < C i → A (24 * i + j) = A' (24 * i + j) ∧ Z (24 * i + j) = Z' (24 * i + j)) → cAl W A Z C m = cAl W A' Z' C' m
  | 0, _, _ => rfl
  | m + 1, hc, h => by
    show cSg W A Z m (cAl W A Z C m) (C m).toNat = cSg W A' Z' m (cAl W A' Z' C' m) (C' m).toNat
    rw [cAl_cg m (fun i i0 i1 => hc i i0 (by omega)) (fun i j i0 i1 j0 j1 => h i j i0 (by omega) j0 j1), ← hc m (by omega) (by omega)]
    exact cSg_cg _ (fun j j0 j1 => h m j (by omega) (by omega) j0 (by omega))
/-- what both sides have combined -/
theorem comb_sim {σ ρ : ZS} (hm : M3 σ) (hl : Alk σ ρ) : ∃ V : Int → Prop, Sim (wC σ) (zA ρ 0 45) V (cAl (wC σ) (aC σ) (sC σ) (fun m => zI σ m 1) 3) (cAl (zA ρ 0 45) (zA ρ 0 46) (zA ρ 0 48) (cR ρ) 3) := by
  have ec : ∀ i : Int, 0 ≤ i → i < ((3 : Nat) : Int) → zI σ i 1 = cR ρ i := by
    intro i i0 i1
    unfold cR
    rw [← hl.2.1 i i0 (by omega)]
    by_cases z : zI σ i 0 = 0
    · rw [if_pos z]; exact ((hl.2.2 i i0 (by omega)).1 z).1
    · rw [if_neg z]; exact ((hl.2.2 i i0 (by omega)).2 z).1.1
  have sg : ∀ i j : Int, 0 ≤ i → i < ((3 : Nat) : Int) → 0 ≤ j → j < zI σ i 1 → zA ρ 0 48 (24 * i + j) = sC σ (24 * i + j) ∧ zA ρ 0 46 (24 * i + j) = aC σ (24 * i + j) ∧ RW (zA ρ 0 45 (24 * i + j)) (wC σ (24 * i + j)) := by
    intro i j i0 i1 j0 j1
    have h24 := (hm i i0 (by omega)).2.1
    have t0 : zI σ i 0 ≠ 0 := fun z => by have := ((hl.2.2 i i0 (by omega)).1 z).1; omega
    obtain ⟨⟨-, x⟩, -⟩ := (hl.2.2 i i0 (by omega)).2 t0
    obtain ⟨x1, -, x3, x4⟩ := x j j0 j1
    unfold sC aC wC
    rw [show (24 * i + j) / 24 = i by omega, show (24 * i + j) % 24 = j by omega]
    exact ⟨x1, x3, x4⟩
  refine ⟨fun p => ∃ i j : Int, (0 ≤ i ∧ i < ((3 : Nat) : Int)) ∧ (0 ≤ j ∧ j < zI σ i 1) ∧ p = 24 * i + j, ?_⟩
  rw [cAl_cg (W := zA ρ 0 45) (A := zA ρ 0 46) (A' := aC σ) (Z := zA ρ 0 48) (Z' := sC σ) (C := cR ρ) (C' := fun m => zI σ m 1) 3 (fun i i0 i1 => (ec i i0 i1).symm) (fun i j i0 i1 j0 j1 => by
    have := sg i j i0 i1 j0 (by rw [ec i i0 i1]; exact j1)
    exact ⟨this.2.1, this.1⟩)]
  refine Sim.a (fun p q hp hq => ?_) 3 (fun i j i0 i1 j0 j1 => ⟨i, j, ⟨i0, i1⟩, ⟨j0, j1⟩, rfl⟩)
  obtain ⟨i, j, ib, jb, rfl⟩ := hp
  obtain ⟨i', j', ib', jb', rfl⟩ := hq
  exact ((sg i j ib.1 ib.2 jb.1 jb.2).2.2.iff (sg i' j' ib'.1 ib'.2 jb'.1 jb'.2).2.2).symm
/-! X: near fixups whose name lies apart, exactly (the class) -/
/-- public q of module m has word w -/
def PPc (σ : ZS) (w m q : Int) : Prop := (0 ≤ m ∧ m < 3) ∧ zI σ m 0 ≠ 0 ∧ (0 ≤ q ∧ q < zI σ m 13) ∧ zA σ m 14 q = w
theorem x_publicPart {σ : ZS} {w : Int} {Q : Int → ZS → Prop} (h : M3 σ) (hw : 0 ≤ w ∧ w ≤ 4398046511103) (hp : PbC σ w 3) (hQ : ∀ m q : Int, PPc σ w m q → Q (m * 24 + zA σ m 15 q) σ) : wpX3_publicPart w σ Q := by
  unfold wpX3_publicPart wpX3_part
  refine x_publicModule h (by decide) hw (fun m q mb mt qb qw => ⟨by omega, fun _ => ⟨by omega, ?_⟩, fun z => absurd mb.1 z⟩) (fun no => absurd hp no)
  have mo := h m mb.1 (by omega)
  have h13 := mo.2.2.2.1
  exact c_publicNumber (by omega) mo hw (fun x x0 x1 xe _ => ⟨by omega, hQ m x ⟨mb, mt, ⟨x0, x1⟩, xe⟩⟩) (fun no => absurd qw (no q qb.1 qb.2))
/-- no near fixup's name lies apart (the class) -/
def APc (σ : ZS) : Prop := ∀ m k m' q : Int, (0 ≤ m ∧ m ≤ 2) → (0 ≤ k ∧ k < zI σ m 7) → zA σ m 8 k = 2 → PPc σ (zA σ m 12 k) m' q → zA σ 16 5 (m * 24 + zA σ m 9 k) = zA σ 16 5 (m' * 24 + zA σ m' 15 q)
theorem x_firstApart {σ : ZS} {Q : Int → ZS → Prop} (h : M3 σ) (hl : LKc σ) (hn : ∀ m k : Int, (0 ≤ m ∧ m ≤ 2) → (0 ≤ k ∧ k < zI σ m 7) → zA σ m 8 k = 2 → PbC σ (zA σ m 12 k) 3) (hu : ∀ w m q m' q' : Int, PPc σ w m q → PPc σ w m' q' → m * 24 + zA σ m 15 q = m' * 24 + zA σ m' 15 q') (h0 : APc σ → Q (-1) σ) (h1 : ∀ x : Int, (0 ≤ x ∧ x ≤ 2) → ¬ APc σ → Q x σ) : wpX3_firstApart σ Q := by
  unfold wpX3_firstApart wpX3_firstApart_2
  refine lfp1_ind (fun v _ => (3 - v).toNat) (fun v τ => τ = σ ∧ (0 ≤ v ∧ v ≤ 3) ∧ (∀ m k m' q : Int, (0 ≤ m ∧ m < v) → (0 ≤ k ∧ k < zI σ m 7) → zA σ m 8 k = 2 → PPc σ (zA σ m 12 k) m' q → zA σ 16 5 (m * 24 + zA σ m 9 k) = zA σ 16 5 (m' * 24 + zA σ m' 15 q))) (fun K v τ hI ih => ?_) ⟨rfl, by decide, fun m k m' q mb => absurd mb (by omega)⟩
  obtain ⟨e, hv, hno⟩ := hI
  rw [e]
  unfold wpbX3_firstApart_2 wpX3_firstApart_16
  refine ⟨by omega, fun _ => h0 (fun m k m' q mb => hno m k m' q (by omega)), fun q => ⟨by omega, ?_⟩⟩
  have hm := h v (by omega) (by omega)
  have h7 := hm.2.2.1
  refine lfp1_ind (fun u _ => (200 - u).toNat) (fun u τ => τ = σ ∧ (0 ≤ u ∧ u ≤ 200) ∧ (∀ k m' q : Int, (0 ≤ k ∧ k < u) → k < zI σ v 7 → zA σ v 8 k = 2 → PPc σ (zA σ v 12 k) m' q → zA σ 16 5 (v * 24 + zA σ v 9 k) = zA σ 16 5 (m' * 24 + zA σ m' 15 q))) (fun K' u τ' hI' ih' => ?_) ⟨rfl, by decide, fun k m' q kb => absurd kb (by omega)⟩
  obtain ⟨e', hu', hi⟩ := hI'
  rw [e']
  unfold wpbX3_firstApart_16 wpX3_firstApart_69 wpX3_part
  refine ⟨by omega, by omega, by omega, fun _ => ih _ _ ⟨rfl, by omega, fun m k m' q mb kb => ?_⟩ (by omega), fun q' => ?_⟩
  · by_cases ev : m = v
    · rw [ev] at kb ⊢; exact hi k m' q (by omega) kb.2
    · exact hno m k m' q (by omega) kb
  obtain ⟨p1, p2, p3, p4, p5⟩ := hm.2.2.2.2.2.2.1 u hu'.1 (by omega)
  have on : (∀ m' q : Int, zA σ v 8 u = 2 → PPc σ (zA σ v 12 u) m' q → zA σ 16 5 (v * 24 + zA σ v 9 u) = zA σ 16 5 (m' * 24 + zA σ m' 15 q)) → K' (u + 1) σ := by
    intro hh
    refine ih' _ _ ⟨rfl, by omega, fun k m' q kb kl => ?_⟩ (by omega)
    by_cases ev : k = u
    · rw [ev]; exact hh m' q
    · exact hi k m' q (by omega) kl
  refine ⟨by omega, by omega, fun n2 => on (fun _ _ y => absurd y n2), fun y2 => ⟨by omega, x_publicPart h p5 (hn v u (by omega) (by omega) y2) (fun m' x px => ?_)⟩⟩
  have mb := px.1
  have mo := h m' px.1.1 (by omega)
  have h15 := (mo.2.2.2.2.2.2.2 x px.2.2.1.1 px.2.2.1.2).2.1
  have a1 := hl.2.2.2.2.1 (v * 24 + zA σ v 9 u) (by omega) (by omega)
  have a2 := hl.2.2.2.2.1 (m' * 24 + zA σ m' 15 x) (by omega) (by omega)
  refine ⟨by omega, by omega, by omega, fun eq => on (fun m2 q2 _ p2' => ?_), fun ne => h1 _ (by omega) (fun ap => ne (ap v u m' x (by omega) (by omega) y2 px))⟩
  rw [eq, hu _ m' x m2 q2 px p2']
/-! the same in the reference -/
def PPr (ρ : ZS) (w m k : Int) : Prop := (0 ≤ m ∧ m ≤ 2) ∧ zA ρ 0 43 m ≠ 0 ∧ (0 ≤ k ∧ k < zA ρ 0 56 m) ∧ zA ρ 0 57 (80 * m + k) = w
def APr (ρ : ZS) : Prop := ∀ m k m' k' : Int, (0 ≤ m ∧ m ≤ 2) → zA ρ 0 43 m ≠ 0 → (0 ≤ k ∧ k < zA ρ 0 50 m) → zA ρ 0 51 (200 * m + k) = 2 → PPr ρ (zA ρ 0 55 (200 * m + k)) m' k' → zA ρ 0 71 (24 * m + zA ρ 0 52 (200 * m + k)) = zA ρ 0 71 (24 * m' + zA ρ 0 58 (80 * m' + k'))
theorem y_aboutSegment {σ : ZS} {m k : Int} {Q : Int → ZS → Prop} (hL : LK σ) (hm : 0 ≤ m ∧ m ≤ 2) (h43 : zA σ 0 43 m ≠ 0) (hk : 0 ≤ k ∧ k < zA σ 0 50 m) (hneg : zA σ 0 54 (200 * m + k) < 0) (hQ : ∀ m' k' : Int, PPr σ (zA σ 0 55 (200 * m + k)) m' k' → (0 ≤ zA σ 0 71 (24 * m' + zA σ 0 58 (80 * m' + k')) ∧ zA σ 0 71 (24 * m' + zA σ 0 58 (80 * m' + k')) < zI σ 0 73) → Q (zA σ 0 71 (24 * m' + zA σ 0 58 (80 * m' + k'))) σ) : wpX11_aboutSegment m (200 * m + k) σ Q := by
  obtain ⟨hA, hC, hN, -⟩ := hL
  have hMI := hA.2 m hm.1 hm.2
  have h50 := hMI.1.2.1
  have h44 := hMI.1.1
  have hfx := (hMI.2.2.1 k hk.1 hk.2).2.2.2.2
  have h55 := hA.1.2.1 (200 * m + k) (by omega) (by omega)
  unfold wpX11_aboutSegment
  refine ⟨by omega, by omega, fun l => ?_, fun nl => absurd hneg nl⟩
  refine s_publicOf hA h55 (fun q => absurd (hN m k hm.1 hm.2 h43 hk.1 hk.2 l) q) (fun m' k' hm' hk' h43' h57' => ?_)
  have hMI' := hA.2 m' hm'.1 hm'.2
  have h56' := hMI'.1.2.2
  have h44' := hMI'.1.1
  have hp := hMI'.2.2.2 k' hk'.1 hk'.2
  have e : (80 * m' + k') / 80 = m' := by omega
  have hc := (hC.2.1 m' _ hm'.1 hm'.2 hp.1.1 hp.1.2 h43').1
  rw [e]
  exact ⟨by omega, by omega, by omega, hQ m' k' ⟨hm', h43', hk', h57'⟩ hc⟩
theorem y_far {σ : ZS} {Q : Int → ZS → Prop} (hL : LK σ) (hn : ∀ m k : Int, (0 ≤ m ∧ m ≤ 2) → zA σ 0 43 m ≠ 0 → (0 ≤ k ∧ k < zA σ 0 50 m) → zA σ 0 51 (200 * m + k) = 2 → zA σ 0 54 (200 * m + k) < 0) (hu : ∀ w m k m' k' : Int, PPr σ w m k → PPr σ w m' k' → 24 * m + zA σ 0 58 (80 * m + k) = 24 * m' + zA σ 0 58 (80 * m' + k')) (h0 : APr σ → Q (-1) σ) (h1 : ∀ r : Int, (0 ≤ r ∧ r ≤ 2) → ¬ APr σ → Q r σ) : wpX11_far σ Q := by
  have hA := hL.1
  unfold wpX11_far wpX11_far_2
  refine lfp1_ind (fun v _ => (3 - v).toNat) (fun v τ => τ = σ ∧ (0 ≤ v ∧ v ≤ 3) ∧ (∀ m k m' k' : Int, (0 ≤ m ∧ m < v) → zA σ 0 43 m ≠ 0 → (0 ≤ k ∧ k < zA σ 0 50 m) → zA σ 0 51 (200 * m + k) = 2 → PPr σ (zA σ 0 55 (200 * m + k)) m' k' → zA σ 0 71 (24 * m + zA σ 0 52 (200 * m + k)) = zA σ 0 71 (24 * m' + zA σ 0 58 (80 * m' + k')))) ?_ ⟨rfl, by omega, fun m k m' k' mb => absurd mb (by omega)⟩
  intro P m τ ⟨he, hm, hno⟩ ih
  rw [he]
  show wpbX11_far_2 P m σ Q
  unfold wpbX11_far_2
  refine ⟨by omega, fun _ => h0 (fun m k m' k' mb => hno m k m' k' (by omega)), fun ne => ?_⟩
  have hMI := hA.2 m hm.1 (by omega)
  have h50 := hMI.1.2.1
  have h44 := hMI.1.1
  have h43 := hA.1.2.2.2.2 m (by omega) (by omega)
  unfold wpX11_far_9
  refine lfp1_ind (fun v _ => (200 - v).toNat) (fun v τ => τ = σ ∧ (0 ≤ v ∧ v ≤ zA σ 0 50 m) ∧ (∀ k m' k' : Int, zA σ 0 43 m ≠ 0 → (0 ≤ k ∧ k < v) → zA σ 0 51 (200 * m + k) = 2 → PPr σ (zA σ 0 55 (200 * m + k)) m' k' → zA σ 0 71 (24 * m + zA σ 0 52 (200 * m + k)) = zA σ 0 71 (24 * m' + zA σ 0 58 (80 * m' + k')))) ?_ ⟨rfl, by omega, fun k m' k' _ kb => absurd kb (by omega)⟩
  intro P9 k τ ⟨he9, hk, hnk⟩ ih9
  rw [he9]
  show wpbX11_far_9 P P9 m k σ Q
  have out : zA σ 0 43 m = 0 ∨ k = zA σ 0 50 m → P (m + 1) σ := by
    intro hq
    refine ih _ _ ⟨rfl, by omega, fun m2 k2 m' k' mb mt kb => ?_⟩ (by show (3 - (m + 1)).toNat < (3 - m).toNat; omega)
    by_cases em : m2 = m
    · rw [em] at mt kb ⊢
      rcases hq with q | q
      · exact absurd q mt
      · exact hnk k2 m' k' mt (by omega)
    · exact hno m2 k2 m' k' (by omega) mt kb
  unfold wpbX11_far_9 wpX11_far_79 wpX11_far_73
  refine ⟨by omega, by omega, by omega, fun _ => out (Or.inr (by omega)), fun ne9 => ⟨by omega, fun z => out (Or.inl z), fun nz => ?_⟩⟩
  have next : (∀ m' k' : Int, zA σ 0 51 (200 * m + k) = 2 → PPr σ (zA σ 0 55 (200 * m + k)) m' k' → zA σ 0 71 (24 * m + zA σ 0 52 (200 * m + k)) = zA σ 0 71 (24 * m' + zA σ 0 58 (80 * m' + k'))) → P9 (k + 1) σ := by
    intro hh
    refine ih9 _ _ ⟨rfl, by omega, fun k2 m' k' mt kb => ?_⟩ (by show (200 - (k + 1)).toNat < (200 - k).toNat; omega)
    by_cases e : k2 = k
    · rw [e]; exact hh m' k'
    · exact hnk k2 m' k' mt (by omega)
  have hfx := hMI.2.2.1 k hk.1 (by omega)
  have hc := (hL.2.1.2.1 m _ hm.1 (by omega) hfx.2.1.1 hfx.2.1.2 nz).1
  have h73 := hL.2.1.1
  refine ⟨by omega, by omega, fun n2 => next (fun _ _ y => absurd y n2), fun y2 => ?_⟩
  refine y_aboutSegment hL ⟨hm.1, by omega⟩ nz ⟨hk.1, by omega⟩ (hn m k (by omega) nz (by omega) y2) (fun m' k' pp xb => ⟨by omega, by omega, by omega, fun eq => next (fun m2 k2 _ p2 => ?_), fun ne' => h1 _ (by omega) (fun ap => ?_)⟩)
  · have e := hu _ m' k' m2 k2 pp p2
    rw [← e]
    first | exact eq | exact eq.symm
  · have := ap m k m' k' (by omega) nz (by omega) y2 pp
    first | exact ne' this | exact ne' this.symm
/-! X: a word's public is one -/
theorem hu_c {σ ρ : ZS} (hl : Alk σ ρ) (nt : NTc σ) : ∀ w m q m' q' : Int, PPc σ w m q → PPc σ w m' q' → m * 24 + zA σ m 15 q = m' * 24 + zA σ m' 15 q' := by
  intro w m q m' q' ⟨mb, mt, qb, qw⟩ ⟨mb', mt', qb', qw'⟩
  rcases (by omega : m = m' ∨ m < m' ∨ m' < m) with e | e | e
  · rw [← e] at qb' qw' ⊢
    obtain ⟨-, -, -, -, -, x, -⟩ := (hl.2.2 m mb.1 (by omega)).2 mt
    rw [x q q' qb.1 qb.2 qb'.1 qb'.2 (qw.trans qw'.symm)]
  · exact absurd ⟨m, q, ⟨mb.1, e⟩, mt, qb, qw.trans qw'.symm⟩ (nt m' q' (by omega) qb')
  · exact absurd ⟨m', q', ⟨mb'.1, e⟩, mt', qb', qw'.trans qw.symm⟩ (nt m q (by omega) qb)
theorem hu_r {σ ρ : ZS} (hl : Alk σ ρ) (nt : NTc σ) : ∀ w m k m' k' : Int, PPr ρ w m k → PPr ρ w m' k' → 24 * m + zA ρ 0 58 (80 * m + k) = 24 * m' + zA ρ 0 58 (80 * m' + k') := by
  intro w m k m' k' ⟨mb, mt, kb, kw⟩ ⟨mb', mt', kb', kw'⟩
  have t0 : zI σ m 0 ≠ 0 := by rw [hl.2.1 m mb.1 mb.2]; exact mt
  have t1 : zI σ m' 0 ≠ 0 := by rw [hl.2.1 m' mb'.1 mb'.2]; exact mt'
  obtain ⟨-, -, -, x, -⟩ := (hl.2.2 m mb.1 mb.2).2 t0
  obtain ⟨-, -, -, y, -⟩ := (hl.2.2 m' mb'.1 mb'.2).2 t1
  obtain ⟨q, qb, qw, q1, -⟩ := x k kb.1 kb.2
  obtain ⟨q', qb', qw', q1', -⟩ := y k' kb'.1 kb'.2
  have h := hu_c hl nt (zA σ m 14 q) m q m' q' ⟨by omega, t0, qb, rfl⟩ ⟨by omega, t1, qb', ((qw.iff qw').mp (kw.trans kw'.symm)).symm⟩
  rw [q1, q1']
  omega
/-! Y: the reference links, its answer told -/
def APw (σ : ZS) (t : CbS) : Prop := ∀ m k m' k' : Int, (0 ≤ m ∧ m ≤ 2) → zA σ 0 43 m ≠ 0 → (0 ≤ k ∧ k < zA σ 0 50 m) → zA σ 0 51 (200 * m + k) = 2 → PPr σ (zA σ 0 55 (200 * m + k)) m' k' → t.wh (24 * m + zA σ 0 52 (200 * m + k)) = t.wh (24 * m' + zA σ 0 58 (80 * m' + k'))
def LE (t : CbS) : Int := pE t.sz t.n.toNat
def LO (σ : ZS) (t : CbS) (cd r : Int) : Prop := (cd = 1 ∧ ∀ m : Int, 0 ≤ m → m ≤ 2 → zA σ 0 43 m = 0) ∨ ((∃ m : Int, (0 ≤ m ∧ m ≤ 2) ∧ zA σ 0 43 m ≠ 0) ∧ ((cd = 2 ∧ ¬ NTr σ) ∨ (NTr σ ∧ ((cd = 3 ∧ ¬ NoMiss σ) ∨ (NoMiss σ ∧ ((cd = 3 ∧ ¬ Pub σ 1835100526) ∨ (Pub σ 1835100526 ∧ ((cd = 4 ∧ 1200 < LE t) ∨ (LE t ≤ 1200 ∧ ((cd = 5 ∧ ¬ APw σ t) ∨ (cd = 0 ∧ APw σ t ∧ r = LE t)))))))))))
/-! X: the class links, its answer told -/
def APv (σ : ZS) (t : CbS) : Prop := ∀ m k m' q : Int, (0 ≤ m ∧ m ≤ 2) → (0 ≤ k ∧ k < zI σ m 7) → zA σ m 8 k = 2 → PPc σ (zA σ m 12 k) m' q → t.wh (24 * m + zA σ m 9 k) = t.wh (24 * m' + zA σ m' 15 q)
def LQ (σ : ZS) (t : CbS) (cd r : Int) : Prop := (cd = 1 ∧ ∀ m : Int, 0 ≤ m → m ≤ 2 → zI σ m 0 = 0) ∨ ((∃ m : Int, (0 ≤ m ∧ m ≤ 2) ∧ zI σ m 0 ≠ 0) ∧ ((cd = 2 ∧ ¬ NTc σ) ∨ (NTc σ ∧ ((cd = 3 ∧ ¬ NMc σ) ∨ (NMc σ ∧ ((cd = 3 ∧ ¬ PbC σ 230192366 3) ∨ (PbC σ 230192366 3 ∧ ((cd = 4 ∧ 1200 < LE t) ∨ (LE t ≤ 1200 ∧ ((cd = 5 ∧ ¬ APv σ t) ∨ (cd = 0 ∧ APv σ t ∧ r = LE t)))))))))))
/-! L: link answers alike -/
theorem AP_iff {σ ρ : ZS} (hm : M3 σ) (hA : MA ρ) (hl : Alk σ ρ) {t t' : CbS} (ew : t.wh = t'.wh) : APv σ t ↔ APw ρ t' := by
  constructor
  · intro h m k m' k' mb mt kb y ⟨pb, pt, pk, pw⟩
    have t0 : zI σ m 0 ≠ 0 := by rw [hl.2.1 m mb.1 mb.2]; exact mt
    have t1 : zI σ m' 0 ≠ 0 := by rw [hl.2.1 m' pb.1 pb.2]; exact pt
    obtain ⟨-, -, ⟨x1, x2⟩, -⟩ := (hl.2.2 m mb.1 mb.2).2 t0
    obtain ⟨-, -, -, x, -⟩ := (hl.2.2 m' pb.1 pb.2).2 t1
    obtain ⟨y1, y2, y3, y4, y5⟩ := x2 k kb.1 (by omega)
    obtain ⟨q, qb, qw, q1, -⟩ := x k' pk.1 pk.2
    have := h m k m' q mb ⟨kb.1, by omega⟩ (by rw [← y1]; exact y) ⟨by omega, t1, qb, ((qw.iff y5).mp pw)⟩
    rw [y2, q1, ← ew]; exact this
  · intro h m k m' q mb kb y ⟨pb, pt, pk, pw⟩
    have t0 : zI σ m 0 ≠ 0 := fun z => by have := ((hl.2.2 m mb.1 mb.2).1 z).2.1; omega
    obtain ⟨-, -, ⟨x1, x2⟩, -⟩ := (hl.2.2 m mb.1 mb.2).2 t0
    obtain ⟨-, -, -, -, x, -⟩ := (hl.2.2 m' pb.1 (by omega)).2 pt
    obtain ⟨y1, y2, y3, y4, y5⟩ := x2 k kb.1 kb.2
    obtain ⟨k', kb', kw, k1, -⟩ := x q pk.1 pk.2
    have := h m k m' k' mb (by rw [← hl.2.1 m mb.1 mb.2]; exact t0) ⟨kb.1, by omega⟩ (by rw [y1]; exact y) ⟨by omega, by rw [← hl.2.1 m' pb.1 (by omega)]; exact pt, kb', (kw.iff y5).mpr pw⟩
    rw [ew, ← y2, ← k1]; exact this
theorem LQ_LO {σ ρ : ZS} (hm : M3 σ) (hA : MA ρ) (hl : Alk σ ρ) {t t' : CbS} (ew : t.wh = t'.wh) (es : LE t = LE t') {cq rq cd r : Int} (h : LQ σ t cq rq) (k : LO ρ t' cd r) : cd = cq ∧ (cq = 0 → r = rq) := by
  have th : (∀ m : Int, 0 ≤ m → m ≤ 2 → zI σ m 0 = 0) ↔ (∀ m : Int, 0 ≤ m → m ≤ 2 → zA ρ 0 43 m = 0) := ⟨fun q m m0 m2 => by rw [← hl.2.1 m m0 m2]; exact q m m0 m2, fun q m m0 m2 => by rw [hl.2.1 m m0 m2]; exact q m m0 m2⟩
  have nt := NT_iff hl
  have nm := NM_iff hl
  have pm := Pub_iff hl RW_main
  have ap := AP_iff hm hA hl ew
  unfold LQ at h
  unfold LO at k
  rw [es, nt, nm, ← pm, ap, th] at h
  rcases h with ⟨h1, h2⟩ | ⟨⟨a, ab, at'⟩, h⟩
  · rcases k with ⟨k1, -⟩ | ⟨⟨b, bb, bt⟩, -⟩
    · exact ⟨by omega, fun q => by omega⟩
    · exact absurd (h2 b bb.1 bb.2) bt
  · rcases k with ⟨-, k2⟩ | ⟨-, k⟩
    · exact absurd (by rw [hl.2.1 a ab.1 ab.2]; exact k2 a ab.1 ab.2) at'
    rcases h with ⟨h1, h2⟩ | ⟨h2, h⟩
    · rcases k with ⟨k1, -⟩ | ⟨k2, -⟩
      · exact ⟨by omega, fun q => by omega⟩
      · exact absurd k2 h2
    · rcases k with ⟨-, k2⟩ | ⟨-, k⟩
      · exact absurd h2 k2
      rcases h with ⟨h1, h3⟩ | ⟨h3, h⟩
      · rcases k with ⟨k1, -⟩ | ⟨k2, -⟩
        · exact ⟨by omega, fun q => by omega⟩
        · exact absurd k2 h3
      · rcases k with ⟨-, k2⟩ | ⟨-, k⟩
        · exact absurd h3 k2
        rcases h with ⟨h1, h4⟩ | ⟨h4, h⟩
        · rcases k with ⟨k1, -⟩ | ⟨k2, -⟩
          · exact ⟨by omega, fun q => by omega⟩
          · exact absurd k2 h4
        · rcases k with ⟨-, k2⟩ | ⟨-, k⟩
          · exact absurd h4 k2
          rcases h with ⟨h1, h5⟩ | ⟨h5, h⟩
          · rcases k with ⟨k1, -⟩ | ⟨k2, -⟩
            · exact ⟨by omega, fun q => by omega⟩
            · omega
          · rcases k with ⟨-, k2⟩ | ⟨-, k⟩
            · omega
            rcases h with ⟨h1, h6⟩ | ⟨h1, h6, h7⟩
            · rcases k with ⟨k1, -⟩ | ⟨k1, k2, -⟩
              · exact ⟨by omega, fun q => by omega⟩
              · exact absurd k2 h6
            · rcases k with ⟨-, k2⟩ | ⟨k1, -, k3⟩
              · exact absurd h6 k2
              · exact ⟨by omega, fun _ => by rw [k3, h7]⟩
