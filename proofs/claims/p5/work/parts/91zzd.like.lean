/-! L: what is alike between calls, modules too -/
def LT (σ ρ : ZS) : Prop := zI σ 10 1 = zI ρ 0 2 ∧ ∀ j : Int, 0 ≤ j → j < zI ρ 0 2 → zA ρ 0 1 j = zA σ 10 0 j
def LH (σ ρ : ZS) : Prop := ∀ m : Int, 0 ≤ m → m ≤ 2 → zI σ m 0 = zA ρ 0 43 m
/-- a module that is there is alike; one that isn't is empty -/
def ML (σ ρ : ZS) (m : Int) : Prop := (zI σ m 0 = 0 → zI σ m 1 = 0 ∧ zI σ m 7 = 0 ∧ zI σ m 13 = 0) ∧ (zI σ m 0 ≠ 0 → MLx σ ρ m)
def MLa (σ ρ : ZS) : Prop := ∀ m : Int, 0 ≤ m → m ≤ 2 → ML σ ρ m
def Alk (σ ρ : ZS) : Prop := LT σ ρ ∧ LH σ ρ ∧ MLa σ ρ
theorem ML.k {σ ρ τ υ : ZS} {m : Int} (h : ML σ ρ m) (e : ob τ m = ob σ m) (r : ∀ f : Nat, f ∈ WB → zA υ 0 f = zA ρ 0 f) : ML τ υ m := by
  unfold ML MLx at h ⊢
  rw [ob_I e 0, ob_I e 1, ob_I e 7, ob_I e 13, ob_A e 2, ob_A e 3, ob_A e 4, ob_A e 5, ob_A e 6, ob_A e 8, ob_A e 9, ob_A e 10, ob_A e 11, ob_A e 12, ob_A e 14, ob_A e 15, ob_A e 16, r 44 (by decide), r 45 (by decide), r 46 (by decide), r 47 (by decide), r 48 (by decide), r 49 (by decide), r 50 (by decide), r 51 (by decide), r 52 (by decide), r 53 (by decide), r 54 (by decide), r 55 (by decide), r 56 (by decide), r 57 (by decide), r 58 (by decide), r 59 (by decide)]
  exact h
theorem ML.o {σ ρ τ υ : ZS} {m a : Int} (h : ML σ ρ m) (e : ob τ m = ob σ m) (o : OY a ρ υ) (hm : 0 ≤ m ∧ m ≤ 2) (ha : 0 ≤ a ∧ a ≤ 2) (ne : m ≠ a) (h1 : zI σ m 1 ≤ 24) (h7 : zI σ m 7 ≤ 200) (h56 : zA ρ 0 56 m ≤ 80) : ML τ υ m := by
  obtain ⟨⟨o1, o2, o3, o4⟩, v1, v2, v3, v4⟩ := o
  obtain ⟨-, x44, x50, x56⟩ := o1 m ne
  unfold ML MLx at h ⊢
  rw [ob_I e 0, ob_I e 1, ob_I e 7, ob_I e 13, ob_A e 2, ob_A e 3, ob_A e 4, ob_A e 5, ob_A e 6, ob_A e 8, ob_A e 9, ob_A e 10, ob_A e 11, ob_A e 12, ob_A e 14, ob_A e 15, ob_A e 16, x44, x50, x56]
  refine ⟨h.1, fun n0 => ?_⟩
  obtain ⟨⟨g1, g2⟩, g3, ⟨g4, g5⟩, g6, g7, g8⟩ := h.2 n0
  refine ⟨⟨g1, fun s s0 s1 => ?_⟩, fun j j0 j1 => ?_, ⟨g4, fun k k0 k1 => ?_⟩, fun k k0 k1 => ?_, fun q q0 q1 => ?_, g8⟩
  · obtain ⟨y1, y2, y3⟩ := o2 (24 * m + s) (by omega)
    rw [y1, y2, y3, v1 (24 * m + s) (by omega)]; exact g2 s s0 s1
  · rw [v2 (400 * m + j) (by omega)]; exact g3 j j0 j1
  · obtain ⟨y1, y2, y3, y4⟩ := o3 (200 * m + k) (by omega)
    rw [y1, y2, y3, y4, v3 (200 * m + k) (by omega)]; exact g5 k k0 k1
  · obtain ⟨y1, y2⟩ := o4 (80 * m + k) (by omega)
    rw [y1, y2, v4 (80 * m + k) (by omega)]; exact g6 k k0 k1
  · obtain ⟨k, kb, z⟩ := g7 q q0 q1
    obtain ⟨y1, y2⟩ := o4 (80 * m + k) (by omega)
    exact ⟨k, kb, by rw [y1, y2, v4 (80 * m + k) (by omega)]; exact z⟩
/-- how a call of the reference ends: cd what is thrown, w the answer, if c -/
def OO (W : (Int → ZS → Prop) → Prop) (τ : ZS) (cd w N : Int) (c : Prop) : Prop := ∀ Qr : Int → ZS → Prop, (∀ (r : Int) (ρ : ZS), RI ρ N → Alk τ ρ → (c → zI ρ 0 0 = cd ∧ (cd = 0 → r = w)) → Qr r ρ) → W Qr
/-- the class keeps: text, modules -/
def KC (σ τ : ZS) : Prop := (zI τ 10 1 = zI σ 10 1 ∧ zA τ 10 0 = zA σ 10 0) ∧ ∀ m : Int, 0 ≤ m → m ≤ 2 → ob τ m = ob σ m
theorem KC.rf {σ : ZS} : KC σ σ := ⟨⟨rfl, rfl⟩, fun _ _ _ => rfl⟩
theorem KC.m {σ τ : ZS} (k : kp [18] σ τ) : KC σ τ := ⟨⟨k.I (by decide) 1, k.A (by decide) 0⟩, fun m m0 m2 => k m (by simp only [List.mem_cons, List.not_mem_nil, or_false]; omega)⟩
theorem LT.k {σ ρ τ υ : ZS} (h : LT σ ρ) (c1 : zI τ 10 1 = zI σ 10 1) (c2 : zA τ 10 0 = zA σ 10 0) (r2 : zI υ 0 2 = zI ρ 0 2) (r1 : zA υ 0 1 = zA ρ 0 1) : LT τ υ := by
  unfold LT; rw [c1, c2, r1, r2]; exact h
theorem Alk.k {σ ρ τ υ : ZS} {fs as : List Nat} (h : Alk σ ρ) (c : KC σ τ) (f : fr fs as ρ υ) (f2 : 2 ∉ fs) (f1 : 1 ∉ as) (fw : ∀ k ∈ WA, k ∉ as) : Alk τ υ := ⟨h.1.k c.1.1 c.1.2 (f.1 2 f2) (f.2 1 f1), fun m m0 m2 => by rw [ob_I (c.2 m m0 m2) 0, f.2 43 (fw 43 (by decide))]; exact h.2.1 m m0 m2, fun m m0 m2 => (h.2.2 m m0 m2).k (c.2 m m0 m2) (fun k hk => f.2 k (fw k ((show ∀ k ∈ WB, k ∈ WA by decide) k hk)))⟩
theorem d_load {σ : ZS} {N a : Int} {Q : Int → ZS → Prop} {X : String → ZS → Prop} (h : CI σ N) (hN : 0 ≤ N) (ha : -2147483648 ≤ a ∧ a ≤ 2147483647) (hQ : ∀ (x : Int) (τ : ZS), CI τ N → kp [18] σ τ → Q x τ) (hX : ∀ s : String, s = xIAE ∨ s = xISE → X s σ) : wpX10_load a σ Q X := by
  have i0 := h.2.2.2.2.2.1.1
  unfold wpX10_load wpX10_load_11
  exact ⟨ha, fun _ => hX _ (Or.inl rfl), fun _ => ⟨fun _ => ⟨by omega, fun _ => c_start h.2.2.2.2.2.2 hN h.2.2.2.2.2.1 (by omega) (fun τ g => hQ _ τ (h.m g).1 g.2), fun _ => hX _ (Or.inr rfl)⟩, fun _ => hX _ (Or.inl rfl)⟩⟩
theorem d_run {σ : ZS} {N a : Int} {Q : Int → ZS → Prop} {X : String → ZS → Prop} (h : CI σ N) (hN : 0 ≤ N ∧ N ≤ 100000) (ha : -2147483648 ≤ a ∧ a ≤ 2147483647) (hQ : ∀ (x : Int) (τ : ZS), CI τ (N + 400) → kp [18] σ τ → Q x τ) (hX : ∀ s : String, s = xIAE ∨ s = xISE → X s σ) : wpX10_run a σ Q X := by
  have c7 := h.2.2.2.2.2.2.2.2.2.2.2.2.2.1
  unfold wpX10_run wpX10_run_12
  exact ⟨ha, fun _ => hX _ (Or.inl rfl), fun _ => ⟨fun _ => ⟨by omega, fun _ => c_go h.2.2.2.2.2.2 hN (by omega) (fun x τ g hx => hQ x τ (h.m g).1 g.2), fun _ => hX _ (Or.inr rfl)⟩, fun _ => hX _ (Or.inl rfl)⟩⟩
theorem d_link {σ : ZS} {N : Int} {Q : Int → ZS → Prop} {X : String → ZS → Prop} (h : CI σ N) (hQ : ∀ (x : Int) (τ : ZS), CI τ N → KC σ τ → (0 ≤ x ∧ x ≤ 1200) → Q x τ) (hX : ∀ (s : String) (τ : ZS), s = xISE ∨ s = xUOE ∨ s = xNSE ∨ s = xIOB ∨ s = xARI → CI τ N → KC σ τ → X s τ) : wpX10_link σ Q X := by
  obtain ⟨r0, r1, r2, r3, r4, r5, r6⟩ := h
  have h : CI σ N := ⟨r0, r1, r2, r3, r4, r5, r6⟩
  have fin : ∀ (τ : ZS) (v w : Int), kp [16, 17] σ τ → LKc τ → IMc τ → CI (zsI (zsI τ 10 2 v) 10 3 w) N ∧ KC σ (zsI (zsI τ 10 2 v) 10 3 w) := by
    intro τ v w tk tl ti
    have kk : ∀ g : Int, g ≠ 10 → ob (zsI (zsI τ 10 2 v) 10 3 w) g = ob τ g := fun g hg => (ob_i hg).trans (ob_i hg)
    have c1 : ∀ g : Int, g ∉ [(16 : Int), 17] → g ≠ 10 → ob (zsI (zsI τ 10 2 v) 10 3 w) g = ob σ g := fun g h1 h2 => (kk g h2).trans (tk g h1)
    have tX : TX τ := r0.k (tk 10 (by decide))
    exact ⟨⟨tX, r1.k (c1 11 (by decide) (by decide)), r2.k (c1 15 (by decide) (by decide)), fun m m0 m2 => (r3 m m0 m2).k (c1 m (m_no (by omega) (by omega)) (by omega)), tl.k (kk 16 (by decide)), ti.k (kk 17 (by decide)), r6.k (c1 18 (by decide) (by decide))⟩, ⟨tk.I (by decide) 1, tk.A (by decide) 0⟩, fun m m0 m2 => c1 m (m_no (by omega) (by omega)) (by omega)⟩
  have bad : ∀ (s : String) (v w : Int) (τ : ZS), s = xISE ∨ s = xUOE ∨ s = xNSE ∨ s = xIOB ∨ s = xARI → kp [16, 17] σ τ → LKc τ → IMc τ → X s (zsI (zsI τ 10 2 v) 10 3 w) := fun s v w τ hs tk tl ti => hX s _ hs (fin τ v w tk tl ti).1 (fin τ v w tk tl ti).2
  unfold wpX10_link wpX10_tell
  refine c_hasModules r3 (fun x hx => ⟨by omega, fun _ => ?_, fun _ => hX _ σ (Or.inl rfl) h KC.rf⟩)
  refine c_firstPublicTwice r3 (fun y hy => ⟨by omega, fun _ => ?_, fun _ => bad _ _ _ σ (Or.inr (Or.inl rfl)) kp.rf r4 r5⟩)
  refine c_firstUnsolved r3 (fun z hz => ⟨by omega, fun _ => ?_, fun _ => bad _ _ _ σ (Or.inr (Or.inr (Or.inl rfl))) kp.rf r4 r5⟩)
  refine c_hasMain r3 (fun u hu => ⟨by omega, fun _ => ?_, fun _ => bad _ _ _ σ (Or.inr (Or.inr (Or.inl rfl))) kp.rf r4 r5⟩)
  refine c_combine r3 r4 (fun e τ tl tk he hp => ?_)
  have t5 : IMc τ := r5.k (tk 17 (by decide))
  have tM : M3 τ := r3.k tk (by decide) (by decide) (by decide)
  refine ⟨by omega, fun le => ?_, fun _ => bad _ _ _ τ (Or.inr (Or.inr (Or.inr (Or.inl rfl)))) (tk.up (by decide)) tl t5⟩
  refine c_firstApart tM tl (fun f hf => ⟨by omega, fun _ => ?_, fun _ => bad _ _ _ τ (Or.inr (Or.inr (Or.inr (Or.inr rfl)))) (tk.up (by decide)) tl t5⟩)
  refine c_lwrite tM tl t5 ⟨he.1, le⟩ hp (fun υ ui uk => ?_)
  have f1 := fin υ (-1) (-1) ((tk.up (by decide)).tr (uk.up (by decide))) (tl.k (uk 16 (by decide))) ui
  exact hQ e _ f1.1 f1.2 ⟨he.1, le⟩
theorem c_append2 {σ : ZS} {N v n : Int} {Q : Int → ZS → Prop} {X : String → ZS → Prop} (h : CI σ N) (hn : -2147483648 ≤ n ∧ n ≤ 2147483647) (hB : ¬ apok v n → X xIAE σ) (hF : apok v n → 480 < zI σ 10 1 + n → X xIOB σ) (hO : apok v n → zI σ 10 1 + n ≤ 480 → ∀ τ : ZS, CI τ N → zI τ 10 1 = zI σ 10 1 + n → zA τ 10 0 = apT (zA σ 10 0) (zI σ 10 1) v n n → (∀ m : Int, 0 ≤ m → m ≤ 2 → ob τ m = ob σ m) → Q (zI σ 10 1 + n) τ) : wpX10_append v n σ Q X := by
  obtain ⟨hT, hr⟩ := h
  have h2 := hT.1
  unfold wpX10_append wpX10_append_11
  refine ⟨hn, fun q => hB (fun a => by have := a.1; omega), fun g1 => ⟨fun g8 => ?_, fun q => hB (fun a => by have := a.1; omega)⟩⟩
  unfold wpX10_append_24
  refine lfp1_ind (fun w _ => (n - w).toNat) (fun w τ => (0 ≤ w ∧ w ≤ n) ∧ τ = σ ∧ (∀ j : Int, 0 ≤ j → j < w → 32 ≤ zlshr v (8 * j) % 256 ∧ zlshr v (8 * j) % 256 ≤ 126)) ?_ ⟨by omega, rfl, fun j x y => absurd y (by omega)⟩
  intro P w τ ⟨hw, he, hb⟩ ih
  rw [he]
  show wpbX10_append_24 P v n w σ Q X
  unfold wpbX10_append_24 wpX10_append_52 wpX10_byteOf
  refine ⟨by omega, by omega, fun q => ?_, fun nv => ?_⟩
  · have ok : apok v n := ⟨by omega, fun j j0 j1 => hb j j0 (by omega)⟩
    refine ⟨by omega, fun le => ?_, fun nle => hF ok (by omega)⟩
    unfold wpX10_append_95
    refine lfp1_ind (fun u _ => (u + 1).toNat) (fun u τ => (-1 ≤ u ∧ u < n) ∧ TX τ ∧ kp [10] σ τ ∧ zI τ 10 1 = zI σ 10 1 + (n - 1 - u) ∧ zA τ 10 0 = apT (zA σ 10 0) (zI σ 10 1) v n (n - 1 - u)) ?_ ⟨by omega, hT, kp.rf, by omega, by rw [show n - 1 - (n - 1) = 0 by omega, apT_0]⟩
    intro P2 u υ ⟨hu, hTu, hk, hl, ht⟩ ih2
    show wpbX10_append_95 P2 v u υ Q X
    unfold wpbX10_append_95 wpX10_byteOf
    have hu1 := hTu.1
    refine ⟨by omega, fun q => ?_, fun nq => ?_⟩
    · have eu : u = -1 := by omega
      rw [hl, eu, show n - 1 - (-1 : Int) = n by omega]
      obtain ⟨r1, r2, r3, r4, r5, r6⟩ := hr
      refine hO ok le υ ⟨hTu, r1.k (hk 11 (by decide)), r2.k (hk 15 (by decide)), r3.k hk (by decide) (by decide) (by decide), r4.k (hk 16 (by decide)), r5.k (hk 17 (by decide)), r6.k (hk 18 (by decide))⟩ (by rw [hl, eu]; omega) (by rw [ht, eu, show n - 1 - (-1 : Int) = n by omega]) (fun m m0 m2 => hk m (by simp only [List.mem_cons, List.not_mem_nil, or_false]; omega))
    · have oku := ok.2 u (by omega) (by omega)
      rw [z_lb (by omega)]
      dsimp only
      rw [show zlshr v (8 * u) % 256 % 65536 = zlshr v (8 * u) % 256 by omega]
      refine ⟨by omega, ih2 _ _ ⟨by omega, ⟨?_, rng_zu hTu.2.1 (by omega), fun j j0 j1 => ?_⟩, (hk.ta (by decide)).ti (by decide), ?_, ?_⟩ (by omega)⟩
      · show 0 ≤ zI υ 10 1 + 1 ∧ zI υ 10 1 + 1 ≤ 480
        omega
      · have j1' : j < zI υ 10 1 + 1 := j1
        show 32 ≤ zu (zA υ 10 0) (zI υ 10 1) (zlshr v (8 * u) % 256) j
        by_cases e : j = zI υ 10 1
        · rw [e, pu_eq]; exact oku.1
        · rw [pu_ne e]; exact hTu.2.2 j j0 (by omega)
      · show zI υ 10 1 + 1 = zI σ 10 1 + (n - 1 - (u + -1))
        omega
      · show zu (zA υ 10 0) (zI υ 10 1) (zlshr v (8 * u) % 256) = _
        rw [ht, hl]
        have r := apT_s (h := zA σ 10 0) (l := zI σ 10 1) (v := v) (n := n) (m := n - 1 - u) (by omega)
        rw [show n - 1 - (n - 1 - u) = u by omega] at r
        rw [r, show n - 1 - u + 1 = n - 1 - (u + -1) by omega]
  · rw [z_lb (by omega)]
    refine ⟨by omega, fun q => hB (fun a => by have := a.2 w hw.1 (by omega); omega), fun g1 => ⟨fun g2 => ih _ _ ⟨by omega, rfl, fun j x y => ?_⟩ (by omega), fun q => hB (fun a => by have := a.2 w hw.1 (by omega); omega)⟩⟩
    by_cases e : j = w
    · rw [e]; omega
    · exact hb j x (by omega)
theorem e_append2 {σ : ZS} {N v n : Int} {Q : Int → ZS → Prop} (h : RI σ N) (hn : -2147483648 ≤ n ∧ n ≤ 2147483647) (hB : ¬ apok v n → ∀ τ : ZS, RI τ N → zI τ 0 0 = 1 → zI τ 0 2 = zI σ 0 2 → zA τ 0 1 = zA σ 0 1 → fr [0, 2] [1] σ τ → Q 0 τ) (hF : apok v n → 480 < zI σ 0 2 + n → ∀ τ : ZS, RI τ N → zI τ 0 0 = 2 → zI τ 0 2 = zI σ 0 2 → zA τ 0 1 = zA σ 0 1 → fr [0, 2] [1] σ τ → Q 0 τ) (hO : apok v n → zI σ 0 2 + n ≤ 480 → ∀ τ : ZS, RI τ N → zI τ 0 0 = 0 → zI τ 0 2 = zI σ 0 2 + n → zA τ 0 1 = apT (zA σ 0 1) (zI σ 0 2) v n n → fr [0, 2] [1] σ τ → Q (zI σ 0 2 + n) τ) : wpX11_append v n σ Q := by
  have hf0 : fr [0] [] σ (zsI σ 0 0 0) := fr.i (by decide)
  have bad : ¬ apok v n → wpX11_raise 1 (zsI σ 0 0 0) (fun (x9 : Int) (σ10 : ZS) => Q x9 σ10) := fun q => hB q _ (h.read (hf0.ti (by decide))) rfl rfl rfl ((fr.rf.ti (by decide)).ti (by decide))
  have h2 := h.1.1.1
  unfold wpX11_append wpX11_append_16
  refine ⟨hn, fun q => bad (fun a => by have := a.1; omega), fun g1 => ⟨fun g8 => ?_, fun q => bad (fun a => by have := a.1; omega)⟩⟩
  unfold wpX11_append_25
  refine lfp1_ind (fun w _ => (n - w).toNat) (fun w τ => (0 ≤ w ∧ w ≤ n) ∧ τ = zsI σ 0 0 0 ∧ (∀ j : Int, 0 ≤ j → j < w → 32 ≤ zlshr v (8 * j) % 256 ∧ zlshr v (8 * j) % 256 ≤ 126)) ?_ ⟨by omega, rfl, fun j x y => absurd y (by omega)⟩
  intro P w τ ⟨hw, he, hb⟩ ih
  rw [he]
  show wpbX11_append_25 P v n w (zsI σ 0 0 0) Q
  unfold wpbX11_append_25 wpX11_append_59
  have e2 : zI (zsI σ 0 0 0) 0 2 = zI σ 0 2 := rfl
  rw [e2]
  refine ⟨by omega, by omega, fun q => ?_, fun nv => ⟨fun q => bad (fun a => by have := a.2 w hw.1 (by omega); omega), fun g1 => ⟨fun g2 => ih _ _ ⟨by omega, rfl, fun j x y => ?_⟩ (by omega), fun q => bad (fun a => by have := a.2 w hw.1 (by omega); omega)⟩⟩⟩
  · have ok : apok v n := ⟨by omega, fun j j0 j1 => hb j j0 (by omega)⟩
    refine ⟨by omega, fun le => ?_, fun nle => hF ok (by omega) _ (h.read (hf0.ti (by decide))) rfl rfl rfl ((fr.rf.ti (by decide)).ti (by decide))⟩
    unfold wpX11_append_94
    refine lfp1_ind (fun u _ => (u + 1).toNat) (fun u τ => (-1 ≤ u ∧ u < n) ∧ Tx τ ∧ fr [0, 2] [1] σ τ ∧ zI τ 0 0 = 0 ∧ zI τ 0 2 = zI σ 0 2 + (n - 1 - u) ∧ zA τ 0 1 = apT (zA σ 0 1) (zI σ 0 2) v n (n - 1 - u)) ?_ ⟨by omega, h.1.1, (hf0.up (by decide) (by decide)), rfl, ?_, ?_⟩
    · intro P2 u υ ⟨hu, hTu, hf, h0, hl, ht⟩ ih2
      show wpbX11_append_94 P2 v u υ Q
      unfold wpbX11_append_94
      have hu1 := hTu.1
      refine ⟨by omega, fun q => ?_, fun nq => ⟨by omega, ih2 _ _ ⟨by omega, ⟨?_, fun j j0 j1 => ?_, hTu.2.2⟩, (hf.ta (by decide)).ti (by decide), h0, ?_, ?_⟩ (by omega)⟩⟩
      · have eu : u = -1 := by omega
        rw [hl, eu, show n - 1 - (-1 : Int) = n by omega]
        refine hO ok le υ ⟨⟨hTu, ?_⟩, h.2.1.up (hf.2 16 (by decide)), h.2.2.1.up (hf.an (by decide)), h.2.2.2.1.same (hf.in (by decide)) (hf.an (by decide)), h.2.2.2.2.same (hf.in (by decide)) (hf.an (by decide))⟩ h0 (by rw [hl, eu]; omega) (by rw [ht, eu, show n - 1 - (-1 : Int) = n by omega]) hf
        have g := h.1.2
        unfold G1 G2 G3 at g ⊢
        rw [hf.1 8 (by decide), hf.1 9 (by decide), hf.1 10 (by decide), hf.1 37 (by decide), hf.1 38 (by decide), hf.1 39 (by decide), hf.1 41 (by decide), hf.1 42 (by decide), hf.2 12 (by decide), hf.2 13 (by decide), hf.2 14 (by decide), hf.2 15 (by decide), hf.2 19 (by decide), hf.2 20 (by decide), hf.2 21 (by decide), hf.2 22 (by decide), hf.2 24 (by decide), hf.2 25 (by decide), hf.2 26 (by decide), hf.2 27 (by decide), hf.2 28 (by decide), hf.2 30 (by decide), hf.2 35 (by decide)]
        exact g
      · show 0 ≤ zI υ 0 2 + 1 ∧ zI υ 0 2 + 1 ≤ 480
        omega
      · have j1' : j < zI υ 0 2 + 1 := j1
        show 32 ≤ zu (zA υ 0 1) (zI υ 0 2) (zlshr v (8 * u) % 256) j ∧ zu (zA υ 0 1) (zI υ 0 2) (zlshr v (8 * u) % 256) j ≤ 126
        by_cases e : j = zI υ 0 2
        · rw [e, pu_eq]; exact ok.2 u (by omega) (by omega)
        · rw [pu_ne e]; exact hTu.2.1 j j0 (by omega)
      · show zI υ 0 2 + 1 = zI σ 0 2 + (n - 1 - (u + -1))
        omega
      · show zu (zA υ 0 1) (zI υ 0 2) (zlshr v (8 * u) % 256) = _
        rw [ht, hl]
        have r := apT_s (h := zA σ 0 1) (l := zI σ 0 2) (v := v) (n := n) (m := n - 1 - u) (by omega)
        rw [show n - 1 - (n - 1 - u) = u by omega] at r
        rw [r, show n - 1 - u + 1 = n - 1 - (u + -1) by omega]
    · show zI σ 0 2 = zI σ 0 2 + (n - 1 - (n - 1))
      omega
    · show zA σ 0 1 = _
      rw [show n - 1 - (n - 1) = 0 by omega, apT_0]
  · by_cases e : j = w
    · rw [e]; omega
    · exact hb j x (by omega)
theorem k4_append {σ ρ : ZS} {N : Int} (h : CI σ N) (hr : RI ρ N) (hl : Alk σ ρ) (hN : 0 ≤ N ∧ N ≤ 100000) {v n : Int} (hn : -2147483648 ≤ n ∧ n ≤ 2147483647) : wpX10_append v n σ (fun x τ => CI τ (N + 400) ∧ OO (wpX11_append v n ρ) τ 0 x (N + 400) True) (fun E τ => ((E = xIAE ∧ OO (wpX11_append v n ρ) τ 1 0 (N + 400) True) ∨ (E = xIOB ∧ OO (wpX11_append v n ρ) τ 2 0 (N + 400) True)) ∧ CI τ (N + 400)) := by
  have keep : ∀ (cd : Int) (υ : ZS), zI υ 0 2 = zI ρ 0 2 → zA υ 0 1 = zA ρ 0 1 → fr [0, 2] [1] ρ υ → Alk σ υ := fun cd υ e2 e1 f => ⟨hl.1.k rfl rfl e2 e1, fun m m0 m2 => by rw [f.2 43 (by decide)]; exact hl.2.1 m m0 m2, fun m m0 m2 => (hl.2.2 m m0 m2).k rfl (fun k hk => f.2 k ((show ∀ k ∈ WB, k ∉ [1] by decide) k hk))⟩
  have hlen := hl.1.1
  refine c_append2 h hn (fun no => ⟨Or.inl ⟨rfl, fun Qr hq => ?_⟩, h.mo (by omega)⟩) (fun ok big => ⟨Or.inr ⟨rfl, fun Qr hq => ?_⟩, h.mo (by omega)⟩) (fun ok le τ ci e1 e0 km => ⟨ci.mo (by omega), fun Qr hq => ?_⟩)
  · refine e_append2 hr hn (fun _ υ u c0 c2 c1 f => hq 0 υ (u.mo (by omega)) (keep 1 υ c2 c1 f) (fun _ => ⟨c0, fun q => absurd q (by decide)⟩)) (fun q => absurd q no) (fun q => absurd q no)
  · refine e_append2 hr hn (fun q => absurd ok q) (fun _ _ υ u c0 c2 c1 f => hq 0 υ (u.mo (by omega)) (keep 2 υ c2 c1 f) (fun _ => ⟨c0, fun q => absurd q (by decide)⟩)) (fun _ q => absurd q (by omega))
  · refine e_append2 hr hn (fun q => absurd ok q) (fun _ q => absurd q (by omega)) (fun _ _ υ u c0 c2 c1 f => hq _ υ (u.mo (by omega)) ⟨⟨by rw [e1, c2, hlen], fun j j0 j1 => ?_⟩, fun m m0 m2 => by rw [f.2 43 (by decide), ob_I (km m m0 m2) 0]; exact hl.2.1 m m0 m2, fun m m0 m2 => (hl.2.2 m m0 m2).k (km m m0 m2) (fun k hk => f.2 k ((show ∀ k ∈ WB, k ∉ [1] by decide) k hk))⟩ (fun _ => ⟨c0, fun _ => by rw [hlen]⟩))
    rw [c1, e0, hlen]
    unfold apT
    by_cases q : zI ρ 0 2 ≤ j ∧ j < zI ρ 0 2 + n
    · rw [if_pos q, if_pos q]
    · rw [if_neg q, if_neg q]; exact hl.1.2 j j0 (by omega)
theorem k4_assemble4 {σ ρ : ZS} {N : Int} (h : CI σ N) (hr : RI ρ N) (hl : Alk σ ρ) (hN : 0 ≤ N ∧ N ≤ 100000) {a : Int} (ha : -2147483648 ≤ a ∧ a ≤ 2147483647) : wpX10_assemble a σ (fun x τ => CI τ (N + 400) ∧ OO (wpX11_assemble a ρ) τ 0 x (N + 400) True) (fun E τ => ((E = xIAE ∧ OO (wpX11_assemble a ρ) τ 1 0 (N + 400) True) ∨ (E = xUOE ∧ OO (wpX11_assemble a ρ) τ 2 0 (N + 400) True) ∨ (E = xNSE ∧ OO (wpX11_assemble a ρ) τ 3 0 (N + 400) True) ∨ (E = xIOB ∧ OO (wpX11_assemble a ρ) τ 4 0 (N + 400) True) ∨ (E = xARI ∧ OO (wpX11_assemble a ρ) τ 5 0 (N + 400) True)) ∧ CI τ (N + 400)) := by
  refine t_assemble5 h hr hl.1.1 hl.1.2 ha (fun x τ ci e1 e0 ao hA oth one => ⟨ci.mo (by omega), fun Qr hq => ao Qr (fun r υ u c2 c1 c0 cw ct => hq r υ (u.mo (by omega)) ⟨?_, fun m m0 m2 => ?_, fun m m0 m2 => ?_⟩ (fun _ => ⟨c0, cw⟩))⟩) (fun s τ hs ci e1 e0 oth => ⟨?_, ci.mo (by omega)⟩)
  · rw [if_pos hA] at e1 c2
    exact ⟨by rw [e1, c2], fun j j0 j1 => by omega⟩
  · rw [(ct.2 rfl).1]
    by_cases e : m = a
    · rw [e, one, pu_eq]
    · rw [pu_ne e, ob_I (oth m m0 m2 e) 0]; exact hl.2.1 m m0 m2
  · obtain ⟨-, oy, ml⟩ := ct.2 rfl
    by_cases e : m = a
    · rw [e]; exact ⟨fun q => absurd (one.symm.trans q) (by decide), fun _ => ml⟩
    · have mo := h.2.2.2.1 m m0 m2
      exact (hl.2.2 m m0 m2).o (oth m m0 m2 e) oy ⟨m0, m2⟩ hA e mo.2.1.2 mo.2.2.1.2 (hr.2.2.1.2 m m0 m2).1.2.2.2
  · have key : ∀ cd : Int, cd ≠ 0 → AO5 ρ a cd 0 N (fun _ => True) → OO (wpX11_assemble a ρ) τ cd 0 (N + 400) True := by
      intro cd hcd ao Qr hq
      refine ao Qr (fun r υ u c2 c1 c0 cw ct => hq r υ (u.mo (by omega)) ⟨?_, fun m m0 m2 => ?_, fun m m0 m2 => (hl.2.2 m m0 m2).k (oth m m0 m2) (fun f hf => ct.1 hcd f ((show ∀ k ∈ WB, k ∈ WA by decide) f hf))⟩ (fun _ => ⟨c0, cw⟩))
      · by_cases q : 0 ≤ a ∧ a ≤ 2
        · rw [if_pos q] at e1 c2
          exact ⟨by rw [e1, c2], fun j j0 j1 => by omega⟩
        · rw [if_neg q] at e1 c2
          exact hl.1.k e1 (e0 q) c2 c1
      · rw [ct.1 hcd 43 (by decide), ob_I (oth m m0 m2) 0]; exact hl.2.1 m m0 m2
    rcases hs with ⟨e, q⟩ | ⟨e, q⟩ | ⟨e, q⟩ | ⟨e, q⟩ | ⟨e, q⟩
    · exact Or.inl ⟨e, key 1 (by decide) q⟩
    · exact Or.inr (Or.inl ⟨e, key 2 (by decide) q⟩)
    · exact Or.inr (Or.inr (Or.inl ⟨e, key 3 (by decide) q⟩))
    · exact Or.inr (Or.inr (Or.inr (Or.inl ⟨e, key 4 (by decide) q⟩)))
    · exact Or.inr (Or.inr (Or.inr (Or.inr ⟨e, key 5 (by decide) q⟩)))
theorem i_drop2 {σ : ZS} {N a : Int} {Q : Int → ZS → Prop} (h : RI σ N) (ha : 0 ≤ a ∧ a ≤ 2) (hQ : ∀ (τ : ZS), RI τ N → zI τ 0 0 = 0 → zI τ 0 2 = zI σ 0 2 → zA τ 0 1 = zA σ 0 1 → zA τ 0 43 = zu (zA σ 0 43) a 0 → fr [0] [43] σ τ → Q (zA σ 0 43 a) τ) : wpX11_drop a σ Q := by
  obtain ⟨h1, h2, h3, h4, h5⟩ := h
  have hv := h3.1.2.2.2.2 a (by omega) (by omega)
  have f : fr [0] [43] σ (zsA (zsI σ 0 0 0) 0 43 a 0) := (fr.rf.ti (by decide)).ta (by decide)
  unfold wpX11_drop
  refine ⟨by omega, fun q => absurd q (by omega), fun _ => ⟨fun _ => ⟨by omega, hv, hQ _ ⟨h1.same (f.in (by decide)) (f.an (by decide)), h2.up (f.2 16 (by decide)), ⟨GM.u43 (σ := zsI σ 0 0 0) h3.1 (by decide), fun m m0 m2 => ?_⟩, h4.same (f.in (by decide)) (f.an (by decide)), h5.same (f.in (by decide)) (f.an (by decide))⟩ rfl rfl rfl rfl f⟩, fun q => absurd ha.2 q⟩⟩
  have hm := h3.2 m m0 m2
  unfold MI
  rw [f.2 44 (by decide), f.2 50 (by decide), f.2 56 (by decide), f.2 46 (by decide), f.2 47 (by decide), f.2 48 (by decide), f.2 51 (by decide), f.2 52 (by decide), f.2 53 (by decide), f.2 54 (by decide), f.2 58 (by decide), f.2 59 (by decide)]
  exact hm
theorem k4_drop {σ ρ : ZS} {N : Int} (h : CI σ N) (hr : RI ρ N) (hl : Alk σ ρ) (hN : 0 ≤ N ∧ N ≤ 100000) {a : Int} (ha : -2147483648 ≤ a ∧ a ≤ 2147483647) : wpX10_drop a σ (fun x τ => CI τ (N + 400) ∧ OO (wpX11_drop a ρ) τ 0 x (N + 400) True ∧ (x = 0 ∨ x = 1)) (fun E τ => ((E = xIAE ∧ OO (wpX11_drop a ρ) τ 1 0 (N + 400) True)) ∧ CI τ (N + 400)) := by
  obtain ⟨r0, r1, r2, r3, r4, r5, r6⟩ := h
  unfold wpX10_drop
  refine c_isModule ha (fun a0 a2 => ⟨by decide, fun _ => ⟨by omega, c_mclear ⟨a0, a2⟩ (fun τ tm tk z0 z1 z7 z13 => ?_)⟩, fun q => absurd q (by decide)⟩) (fun no => ⟨by decide, fun q => absurd rfl q, fun _ => ⟨⟨rfl, fun Qr hq => ?_⟩, CI.mo ⟨r0, r1, r2, r3, r4, r5, r6⟩ (by omega)⟩⟩)
  rotate_left
  · have bad : wpX11_drop_14 (zsI ρ 0 0 0) Qr := hq 0 _ ((hr.read ((fr.rf.ti (by decide)).ti (by decide))).mo (by omega)) ⟨hl.1.k rfl rfl rfl rfl, hl.2.1, fun m m0 m2 => (hl.2.2 m m0 m2).k rfl (fun _ _ => rfl)⟩ (fun _ => ⟨zI_s, fun q => absurd q (by decide)⟩)
    unfold wpX11_drop
    exact ⟨ha, fun _ => bad, fun n1 => ⟨fun n2 => absurd ⟨by omega, n2⟩ no, fun _ => bad⟩⟩
  have na : ∀ g : Int, 3 ≤ g → g ∉ [a] := fun g hg => n_1 (by omega)
  have hv := (r3 a a0 a2).1
  refine ⟨hv, CI.mo (N := N) ⟨r0.k (tk 10 (na 10 (by decide))), r1.k (tk 11 (na 11 (by decide))), r2.k (tk 15 (na 15 (by decide))), fun m m0 m2 => ?_, r4.k (tk 16 (na 16 (by decide))), r5.k (tk 17 (na 17 (by decide))), r6.k (tk 18 (na 18 (by decide)))⟩ (by omega), fun Qr hq => ?_, by omega⟩
  · by_cases e : m = a
    · rw [e]; exact tm
    · exact (r3 m m0 m2).k (tk m (n_1 e))
  · have ea := hl.2.1 a a0 a2
    refine i_drop2 hr ⟨a0, a2⟩ (fun υ u c0 c2 c1 c43 f => hq _ υ (u.mo (by omega)) ⟨hl.1.k (tk.I (na 10 (by decide)) 1) (tk.A (na 10 (by decide)) 0) c2 c1, fun m m0 m2 => ?_, fun m m0 m2 => ?_⟩ (fun _ => ⟨c0, fun _ => ea.symm⟩))
    · rw [c43]
      by_cases e : m = a
      · rw [e, z0, pu_eq]
      · rw [pu_ne e, ob_I (tk m (n_1 e)) 0]; exact hl.2.1 m m0 m2
    · by_cases e : m = a
      · rw [e]; exact ⟨fun _ => ⟨z1, z7, z13⟩, fun q => absurd z0 q⟩
      · exact (hl.2.2 m m0 m2).k (tk m (n_1 e)) (fun k hk => f.2 k ((show ∀ k ∈ WB, k ∉ [43] by decide) k hk))
theorem k4_link {σ ρ : ZS} {N : Int} (h : CI σ N) (hr : RI ρ N) (hl : Alk σ ρ) (hN : 0 ≤ N ∧ N ≤ 100000) : wpX10_link σ (fun x τ => CI τ (N + 400) ∧ OO (wpX11_link ρ) τ 0 x (N + 400) False) (fun E τ => ((E = xISE ∧ OO (wpX11_link ρ) τ 1 0 (N + 400) False) ∨ (E = xUOE ∧ OO (wpX11_link ρ) τ 2 0 (N + 400) False) ∨ (E = xNSE ∧ OO (wpX11_link ρ) τ 3 0 (N + 400) False) ∨ (E = xIOB ∧ OO (wpX11_link ρ) τ 4 0 (N + 400) False) ∨ (E = xARI ∧ OO (wpX11_link ρ) τ 5 0 (N + 400) False)) ∧ CI τ (N + 400)) := by
  have o : ∀ (τ : ZS), KC σ τ → ∀ (cd w : Int), OO (wpX11_link ρ) τ cd w (N + 400) False := fun τ kc cd w Qr hq => by
    obtain ⟨h1, h2, h3, h4, h5⟩ := hr
    exact s_link h3 h4 (fun r τ g f _ => hq r τ (RI.mo (N := N) ⟨h1.same (f.in (by decide)) (f.an (by decide)), h2.up (f.2 16 (by decide)), h3.up (f.an (by decide)), g, h5.same (f.in (by decide)) (f.an (by decide))⟩ (by omega)) (hl.k kc f (by decide) (by decide) (by decide)) (fun q => q.elim))
  refine d_link h (fun x τ ci kc _ => ⟨ci.mo (by omega), o τ kc _ _⟩) (fun s τ hs ci kc => ⟨?_, ci.mo (by omega)⟩)
  rcases hs with e | e | e | e | e
  · exact Or.inl ⟨e, o τ kc _ _⟩
  · exact Or.inr (Or.inl ⟨e, o τ kc _ _⟩)
  · exact Or.inr (Or.inr (Or.inl ⟨e, o τ kc _ _⟩))
  · exact Or.inr (Or.inr (Or.inr (Or.inl ⟨e, o τ kc _ _⟩)))
  · exact Or.inr (Or.inr (Or.inr (Or.inr (⟨e, o τ kc _ _⟩))))
theorem k4_load {σ ρ : ZS} {N : Int} (h : CI σ N) (hr : RI ρ N) (hl : Alk σ ρ) (hN : 0 ≤ N ∧ N ≤ 100000) {a : Int} (ha : -2147483648 ≤ a ∧ a ≤ 2147483647) : wpX10_load a σ (fun x τ => CI τ (N + 400) ∧ OO (wpX11_load a ρ) τ 0 x (N + 400) False) (fun E τ => ((E = xIAE ∧ OO (wpX11_load a ρ) τ 1 0 (N + 400) False) ∨ (E = xISE ∧ OO (wpX11_load a ρ) τ 2 0 (N + 400) False)) ∧ CI τ (N + 400)) := by
  have o : ∀ (τ : ZS), KC σ τ → ∀ (cd w : Int), OO (wpX11_load a ρ) τ cd w (N + 400) False := fun τ kc cd w Qr hq => by
    obtain ⟨h1, h2, h3, h4, h5⟩ := hr
    exact s_load h4 h5 hN.1 ha (fun r τ g f _ => hq r τ (RI.mo (N := N) ⟨h1.same (f.in (by decide)) (f.an (by decide)), h2.up (f.2 16 (by decide)), h3.up (f.an (by decide)), h4.same (f.in (by decide)) (f.an (by decide)), g⟩ (by omega)) (hl.k kc f (by decide) (by decide) (by decide)) (fun q => q.elim))
  refine d_load h hN.1 ha (fun x τ ci k => ⟨ci.mo (by omega), o τ (KC.m k) _ _⟩) (fun s hs => ⟨?_, h.mo (by omega)⟩)
  rcases hs with e | e
  · exact Or.inl ⟨e, o σ KC.rf _ _⟩
  · exact Or.inr (⟨e, o σ KC.rf _ _⟩)
theorem k4_run {σ ρ : ZS} {N : Int} (h : CI σ N) (hr : RI ρ N) (hl : Alk σ ρ) (hN : 0 ≤ N ∧ N ≤ 100000) {a : Int} (ha : -2147483648 ≤ a ∧ a ≤ 2147483647) : wpX10_run a σ (fun x τ => CI τ (N + 400) ∧ OO (wpX11_run a ρ) τ 0 x (N + 400) False) (fun E τ => ((E = xIAE ∧ OO (wpX11_run a ρ) τ 1 0 (N + 400) False) ∨ (E = xISE ∧ OO (wpX11_run a ρ) τ 2 0 (N + 400) False)) ∧ CI τ (N + 400)) := by
  have o : ∀ (τ : ZS), KC σ τ → ∀ (cd w : Int), OO (wpX11_run a ρ) τ cd w (N + 400) False := fun τ kc cd w Qr hq => by
    obtain ⟨h1, h2, h3, h4, h5⟩ := hr
    exact s_run h5 (by omega) ha hN.1 (fun r τ g f _ => hq r τ ⟨h1.same (f.in (by decide)) (f.an (by decide)), h2.up (f.2 16 (by decide)), h3.up (f.an (by decide)), h4.same (f.in (by decide)) (f.an (by decide)), g⟩ (hl.k kc f (by decide) (by decide) (by decide)) (fun q => q.elim))
  refine d_run h hN ha (fun x τ ci k => ⟨ci, o τ (KC.m k) _ _⟩) (fun s hs => ⟨?_, h.mo (by omega)⟩)
  rcases hs with e | e
  · exact Or.inl ⟨e, o σ KC.rf _ _⟩
  · exact Or.inr (⟨e, o σ KC.rf _ _⟩)
theorem k4_code {σ ρ : ZS} {N : Int} (h : CI σ N) (hr : RI ρ N) (hl : Alk σ ρ) (hN : 0 ≤ N ∧ N ≤ 100000) {a b c : Int} (ha : -2147483648 ≤ a ∧ a ≤ 2147483647) (hb : -2147483648 ≤ b ∧ b ≤ 2147483647) (hc : -2147483648 ≤ c ∧ c ≤ 2147483647) : wpX10_code a b c σ (fun x τ => CI τ (N + 400) ∧ OO (wpX11_code a b c ρ) τ 0 x (N + 400) True) (fun E τ => ((E = xIOB ∧ OO (wpX11_code a b c ρ) τ 1 0 (N + 400) True)) ∧ CI τ (N + 400)) := by
  obtain ⟨h1, h2, h3, h4, h5⟩ := id hr
  have g43 : (0 ≤ a ∧ a ≤ 2) → 0 ≤ zA ρ 0 43 a ∧ zA ρ 0 43 a ≤ 1 := fun q => h3.1.2.2.2.2 a (by omega) (by omega)
  have mi : (0 ≤ a ∧ a ≤ 2) → MI ρ a := fun q => h3.2 a q.1 q.2
  have al : ∀ (υ : ZS), fr [0] [] ρ υ → Alk σ υ := fun υ f => hl.k KC.rf f (by decide) (by decide) (by decide)
  have bad : ¬ ((0 ≤ a ∧ a ≤ 2) ∧ zA ρ 0 43 a ≠ 0 ∧ (0 ≤ b ∧ b < zA ρ 0 44 a) ∧ (0 ≤ c ∧ c < zA ρ 0 48 (24 * a + b))) → OO (wpX11_code a b c ρ) σ 1 0 (N + 400) True := by
    intro no Qr hq
    have f : fr [0] [] ρ (zsI (zsI ρ 0 0 0) 0 0 1) := (fr.rf.ti (by decide)).ti (by decide)
    have R : wpX11_raise 1 (zsI ρ 0 0 0) (fun (x1 : Int) (σ2 : ZS) => Qr x1 σ2) := hq 0 _ ((hr.read f).mo (by omega)) (al _ f) (fun _ => ⟨zI_s, fun q => absurd q (by decide)⟩)
    unfold wpX11_code wpX11_code_37 wpX11_code_66
    by_cases hA : 0 ≤ a ∧ a ≤ 2
    · have g := g43 hA
      have M := mi hA
      have M1 := M.1.1
      refine ⟨ha, fun q => absurd q (by omega), fun _ => ⟨fun q => absurd q (by omega), fun _ => ⟨by omega, by omega, fun _ => R, fun n43 => ⟨hb, fun _ => R, fun b0 => ⟨by omega, fun lt => ⟨hc, fun _ => R, fun c0 => ?_⟩, fun _ => R⟩⟩⟩⟩⟩
      have sg := M.2.1 b (by omega) lt
      exact ⟨by omega, by omega, fun lt2 => absurd ⟨hA, n43, ⟨by omega, lt⟩, by omega, lt2⟩ no, fun _ => R⟩
    · exact ⟨ha, fun _ => R, fun n => ⟨fun _ => R, fun q => absurd ⟨by omega, by omega⟩ hA⟩⟩
  unfold wpX10_code wpX10_code_38 wpX10_code_63
  refine c_isModule ha (fun a0 a2 => ⟨by decide, fun _ => ?_, fun q => absurd q (by decide)⟩) (fun no => ⟨by decide, fun q => absurd rfl q, fun _ => ⟨⟨rfl, bad (fun q => no q.1)⟩, h.mo (by omega)⟩⟩)
  have m := h.2.2.2.1 a a0 a2
  have m1 := m.2.1
  have e0 := hl.2.1 a a0 a2
  obtain ⟨l0, l1⟩ := hl.2.2 a a0 a2
  have B : ∀ p : ¬ ((0 ≤ a ∧ a ≤ 2) ∧ zA ρ 0 43 a ≠ 0 ∧ (0 ≤ b ∧ b < zA ρ 0 44 a) ∧ (0 ≤ c ∧ c < zA ρ 0 48 (24 * a + b))), ((xIOB = xIOB ∧ OO (wpX11_code a b c ρ) σ 1 0 (N + 400) True)) ∧ CI σ (N + 400) := fun p => ⟨⟨rfl, bad p⟩, h.mo (by omega)⟩
  refine ⟨by omega, hb, fun q => B (fun w => by omega), fun nb => ⟨by omega, fun lt => ⟨hc, fun q => B (fun w => by omega), fun nc => ?_⟩, fun ge => B (fun w => ?_)⟩⟩
  rotate_left
  · by_cases z : zI σ a 0 = 0
    · exact w.2.1 (by omega)
    · have := (l1 z).1.1
      omega
  have t0 : zI σ a 0 ≠ 0 := fun z => by have := (l0 z).1; omega
  obtain ⟨⟨x1, x2⟩, x3, -, -⟩ := l1 t0
  have sg := x2 b (by omega) lt
  have s := m.2.2.2.2.1 b (by omega) lt
  refine ⟨by omega, by omega, fun lt2 => ⟨by omega, h.mo (by omega), fun Qr hq => ?_⟩, fun ge => B (fun w => by omega)⟩
  have f : fr [0] [] ρ (zsI ρ 0 0 0) := fr.rf.ti (by decide)
  have v := x3 (zA σ a 5 b + c) (by omega) (by omega)
  have hA : 0 ≤ a ∧ a ≤ 2 := ⟨a0, a2⟩
  have g := g43 hA
  have M1 := (mi hA).1.1
  unfold wpX11_code
  refine ⟨ha, fun q => absurd q (by omega), fun _ => ⟨fun q => absurd q (by omega), fun _ => ⟨by omega, by omega, fun q => absurd q (by omega), fun n43 => ⟨hb, fun q => absurd q (by omega), fun _ => ⟨by omega, fun _ => ⟨hc, fun q => absurd q (by omega), fun _ => ⟨by omega, by omega, fun _ => ⟨by omega, ?_⟩, fun q => absurd q (by omega)⟩⟩, fun q => absurd q (by omega)⟩⟩⟩⟩⟩
  refine hq _ _ ((hr.read f).mo (by omega)) (al _ f) (fun _ => ⟨zI_s, fun _ => ?_⟩)
  rw [← v, sg.2.1, show 400 * a + zA σ a 5 b + c = 400 * a + (zA σ a 5 b + c) by omega]
theorem k4_fixup {σ ρ : ZS} {N : Int} (h : CI σ N) (hr : RI ρ N) (hl : Alk σ ρ) (hN : 0 ≤ N ∧ N ≤ 100000) {a b c : Int} (ha : -2147483648 ≤ a ∧ a ≤ 2147483647) (hb : -2147483648 ≤ b ∧ b ≤ 2147483647) (hc : -2147483648 ≤ c ∧ c ≤ 2147483647) : wpX10_fixup a b c σ (fun x τ => CI τ (N + 400) ∧ OO (wpX11_fixup a b c ρ) τ 0 x (N + 400) True) (fun E τ => ((E = xIAE ∧ OO (wpX11_fixup a b c ρ) τ 1 0 (N + 400) True) ∨ (E = xIOB ∧ OO (wpX11_fixup a b c ρ) τ 2 0 (N + 400) True)) ∧ CI τ (N + 400)) := by
  obtain ⟨h1, h2, h3, h4, h5⟩ := id hr
  have g43 : (0 ≤ a ∧ a ≤ 2) → 0 ≤ zA ρ 0 43 a ∧ zA ρ 0 43 a ≤ 1 := fun q => h3.1.2.2.2.2 a (by omega) (by omega)
  have mi : (0 ≤ a ∧ a ≤ 2) → MI ρ a := fun q => h3.2 a q.1 q.2
  have al : ∀ (υ : ZS), fr [0] [] ρ υ → Alk σ υ := fun υ f => hl.k KC.rf f (by decide) (by decide) (by decide)
  have Rk : ∀ (k : Int) (Qr : Int → ZS → Prop), (∀ (r : Int) (υ : ZS), RI υ (N + 400) → Alk σ υ → (True → zI υ 0 0 = k ∧ (k = 0 → r = 0)) → Qr r υ) → k ≠ 0 → wpX11_raise k (zsI ρ 0 0 0) (fun (x1 : Int) (σ2 : ZS) => Qr x1 σ2) := by
    intro k Qr hq hk
    have f : fr [0] [] ρ (zsI (zsI ρ 0 0 0) 0 0 k) := (fr.rf.ti (by decide)).ti (by decide)
    exact hq 0 _ ((hr.read f).mo (by omega)) (al _ f) (fun _ => ⟨zI_s, fun q => absurd q hk⟩)
  have bad1 : ¬ (0 ≤ c ∧ c ≤ 3) → OO (wpX11_fixup a b c ρ) σ 1 0 (N + 400) True := by
    intro no Qr hq
    have R := Rk 1 Qr hq (by decide)
    unfold wpX11_fixup wpX11_fixup_14
    exact ⟨hc, fun _ => R, fun n => ⟨fun q => absurd ⟨by omega, q⟩ no, fun _ => R⟩⟩
  have bad2 : (0 ≤ c ∧ c ≤ 3) → ¬ ((0 ≤ a ∧ a ≤ 2) ∧ zA ρ 0 43 a ≠ 0 ∧ (0 ≤ b ∧ b < zA ρ 0 50 a)) → OO (wpX11_fixup a b c ρ) σ 2 0 (N + 400) True := by
    intro hC no Qr hq
    have R := Rk 2 Qr hq (by decide)
    unfold wpX11_fixup wpX11_fixup_52
    refine ⟨hc, fun q => absurd q (by omega), fun _ => ⟨fun _ => ⟨ha, fun _ => R, fun na => ⟨fun _ => R, fun na2 => ?_⟩⟩, fun q => absurd hC.2 q⟩⟩
    have hA : 0 ≤ a ∧ a ≤ 2 := ⟨by omega, by omega⟩
    have g := g43 hA
    have M2 := (mi hA).1.2.1
    exact ⟨by omega, by omega, fun _ => R, fun n43 => ⟨hb, fun _ => R, fun b0 => ⟨by omega, fun lt => absurd ⟨hA, n43, by omega, lt⟩ no, fun _ => R⟩⟩⟩
  unfold wpX10_fixup wpX10_fixup_57 wpX10_fixup_9
  have B1 : ∀ p : ¬ (0 ≤ c ∧ c ≤ 3), ((xIAE = xIAE ∧ OO (wpX11_fixup a b c ρ) σ 1 0 (N + 400) True) ∨ (xIAE = xIOB ∧ OO (wpX11_fixup a b c ρ) σ 2 0 (N + 400) True)) ∧ CI σ (N + 400) := fun p => ⟨Or.inl ⟨rfl, bad1 p⟩, h.mo (by omega)⟩
  refine ⟨hc, fun q => B1 (by omega), fun c0 => ⟨fun c3 => ?_, fun q => B1 (by omega)⟩⟩
  have hC : 0 ≤ c ∧ c ≤ 3 := ⟨by omega, c3⟩
  have B2 : ∀ p : ¬ ((0 ≤ a ∧ a ≤ 2) ∧ zA ρ 0 43 a ≠ 0 ∧ (0 ≤ b ∧ b < zA ρ 0 50 a)), ((xIOB = xIAE ∧ OO (wpX11_fixup a b c ρ) σ 1 0 (N + 400) True) ∨ (xIOB = xIOB ∧ OO (wpX11_fixup a b c ρ) σ 2 0 (N + 400) True)) ∧ CI σ (N + 400) := fun p => ⟨Or.inr ⟨rfl, bad2 hC p⟩, h.mo (by omega)⟩
  refine c_isModule ha (fun a0 a2 => ⟨by decide, fun _ => ?_, fun q => absurd q (by decide)⟩) (fun no => ⟨by decide, fun q => absurd rfl q, fun _ => B2 (fun q => no q.1)⟩)
  have m := h.2.2.2.1 a a0 a2
  have m7 := m.2.2.1
  have e0 := hl.2.1 a a0 a2
  obtain ⟨l0, l1⟩ := hl.2.2 a a0 a2
  refine ⟨by omega, hb, fun q => B2 (fun w => by omega), fun b0 => ⟨by omega, fun lt => ?_, fun ge => B2 (fun w => ?_)⟩⟩
  rotate_left
  · by_cases z : zI σ a 0 = 0
    · exact w.2.1 (by omega)
    · have := (l1 z).2.2.1.1
      omega
  have t0 : zI σ a 0 ≠ 0 := fun z => by have := (l0 z).2.1; omega
  obtain ⟨-, -, ⟨x1, x2⟩, -⟩ := l1 t0
  obtain ⟨y1, y2, y3, y4, -⟩ := x2 b (by omega) lt
  have hA : 0 ≤ a ∧ a ≤ 2 := ⟨a0, a2⟩
  have g := g43 hA
  have M2 := (mi hA).1.2.1
  have good : ∀ x : Int, (c = 0 → zA ρ 0 51 (200 * a + b) = x) → (c = 1 → zA ρ 0 52 (200 * a + b) = x) → (c = 2 → zA ρ 0 53 (200 * a + b) = x) → (c = 3 → zA ρ 0 54 (200 * a + b) = x) → CI σ (N + 400) ∧ OO (wpX11_fixup a b c ρ) σ 0 x (N + 400) True := by
    intro x v0 v1 v2 v3
    refine ⟨h.mo (by omega), fun Qr hq => ?_⟩
    have f : fr [0] [] ρ (zsI ρ 0 0 0) := fr.rf.ti (by decide)
    have G : ∀ r : Int, r = x → Qr r (zsI ρ 0 0 0) := fun r e => hq r _ ((hr.read f).mo (by omega)) (al _ f) (fun _ => ⟨zI_s, fun _ => e⟩)
    unfold wpX11_fixup wpX11_fixup_118
    refine ⟨hc, fun q => absurd q (by omega), fun _ => ⟨fun _ => ⟨ha, fun q => absurd q (by omega), fun _ => ⟨fun q => absurd q (by omega), fun _ => ⟨by omega, by omega, fun q => absurd q (by omega), fun _ => ⟨hb, fun q => absurd q (by omega), fun _ => ⟨by omega, fun _ => ⟨fun n0 => ⟨fun n1 => ⟨fun n2 => ⟨by omega, G _ (v3 (by omega))⟩, fun e2 => ⟨by omega, G _ (v2 e2)⟩⟩, fun e1 => ⟨by omega, G _ (v1 e1)⟩⟩, fun e0 => ⟨by omega, G _ (v0 e0)⟩⟩, fun q => absurd q (by omega)⟩⟩⟩⟩⟩, fun q => absurd c3 q⟩⟩
  exact ⟨fun e => ⟨by omega, good _ (fun _ => y1) (fun q => by omega) (fun q => by omega) (fun q => by omega)⟩, fun n0 => ⟨fun e => ⟨by omega, good _ (fun q => by omega) (fun _ => y2) (fun q => by omega) (fun q => by omega)⟩, fun n1 => ⟨fun e => ⟨by omega, good _ (fun q => by omega) (fun q => by omega) (fun _ => y3) (fun q => by omega)⟩, fun n2 => ⟨by omega, good _ (fun q => by omega) (fun q => by omega) (fun q => by omega) (fun _ => y4)⟩⟩⟩⟩
theorem k4_image {σ ρ : ZS} {N : Int} (h : CI σ N) (hr : RI ρ N) (hl : Alk σ ρ) (hN : 0 ≤ N ∧ N ≤ 100000) {a : Int} (ha : -2147483648 ≤ a ∧ a ≤ 2147483647) : wpX10_image a σ (fun x τ => CI τ (N + 400) ∧ OO (wpX11_image a ρ) τ 0 x (N + 400) False) (fun E τ => ((E = xIOB ∧ OO (wpX11_image a ρ) τ 1 0 (N + 400) False)) ∧ CI τ (N + 400)) := by
  have o : ∀ (cd w : Int), OO (wpX11_image a ρ) σ cd w (N + 400) False := fun cd w Qr hq => s_image hr.2.2.2.1 ha (fun x τ f _ => hq x τ ((hr.read f).mo (by omega)) (hl.k KC.rf f (by decide) (by decide) (by decide)) (fun q => q.elim))
  refine c_image h ha (fun x => ⟨h.mo (by omega), o _ _⟩) ⟨⟨rfl, o _ _⟩, h.mo (by omega)⟩
theorem k4_memory {σ ρ : ZS} {N : Int} (h : CI σ N) (hr : RI ρ N) (hl : Alk σ ρ) (hN : 0 ≤ N ∧ N ≤ 100000) {a : Int} (ha : -2147483648 ≤ a ∧ a ≤ 2147483647) : wpX10_memory a σ (fun x τ => CI τ (N + 400) ∧ OO (wpX11_memory a ρ) τ 0 x (N + 400) False) (fun E τ => ((E = xIAE ∧ OO (wpX11_memory a ρ) τ 1 0 (N + 400) False)) ∧ CI τ (N + 400)) := by
  have o : ∀ (cd w : Int), OO (wpX11_memory a ρ) σ cd w (N + 400) False := fun cd w Qr hq => s_memoryAt hr.2.2.2.2 ha (fun x τ f _ => hq x τ ((hr.read f).mo (by omega)) (hl.k KC.rf f (by decide) (by decide) (by decide)) (fun q => q.elim))
  refine c_memory ha (fun x => ⟨h.mo (by omega), o _ _⟩) ⟨⟨rfl, o _ _⟩, h.mo (by omega)⟩
theorem k4_register {σ ρ : ZS} {N : Int} (h : CI σ N) (hr : RI ρ N) (hl : Alk σ ρ) (hN : 0 ≤ N ∧ N ≤ 100000) {a : Int} (ha : -2147483648 ≤ a ∧ a ≤ 2147483647) : wpX10_register a σ (fun x τ => CI τ (N + 400) ∧ OO (wpX11_register a ρ) τ 0 x (N + 400) False) (fun E τ => ((E = xIAE ∧ OO (wpX11_register a ρ) τ 1 0 (N + 400) False)) ∧ CI τ (N + 400)) := by
  have o : ∀ (cd w : Int), OO (wpX11_register a ρ) σ cd w (N + 400) False := fun cd w Qr hq => s_register hr.2.2.2.2 ha (fun x τ f _ => hq x τ ((hr.read f).mo (by omega)) (hl.k KC.rf f (by decide) (by decide) (by decide)) (fun q => q.elim))
  refine c_register ha (fun x => ⟨h.mo (by omega), o _ _⟩) ⟨⟨rfl, o _ _⟩, h.mo (by omega)⟩
theorem k4_trace {σ ρ : ZS} {N : Int} (h : CI σ N) (hr : RI ρ N) (hl : Alk σ ρ) (hN : 0 ≤ N ∧ N ≤ 100000) {a : Int} (ha : -2147483648 ≤ a ∧ a ≤ 2147483647) : wpX10_trace a σ (fun x τ => CI τ (N + 400) ∧ OO (wpX11_trace a ρ) τ 0 x (N + 400) False) (fun E τ => ((E = xIOB ∧ OO (wpX11_trace a ρ) τ 1 0 (N + 400) False)) ∧ CI τ (N + 400)) := by
  have o : ∀ (cd w : Int), OO (wpX11_trace a ρ) σ cd w (N + 400) False := fun cd w Qr hq => s_trace hr.2.2.2.2 (by omega) ha (fun x τ f _ => hq x τ ((hr.read f).mo (by omega)) (hl.k KC.rf f (by decide) (by decide) (by decide)) (fun q => q.elim))
  refine c_trace h (by omega) ha (fun x => ⟨h.mo (by omega), o _ _⟩) ⟨⟨rfl, o _ _⟩, h.mo (by omega)⟩
theorem k4_count {σ ρ : ZS} {N : Int} (h : CI σ N) (hr : RI ρ N) (hl : Alk σ ρ) (hN : 0 ≤ N ∧ N ≤ 100000) {a : Int} (ha : -2147483648 ≤ a ∧ a ≤ 2147483647) : wpX10_count a σ (fun x τ => CI τ (N + 400) ∧ OO (wpX11_count a ρ) τ 0 x (N + 400) False) (fun E τ => ((E = xIAE ∧ OO (wpX11_count a ρ) τ 1 0 (N + 400) False)) ∧ CI τ (N + 400)) := by
  have o : ∀ (cd w : Int), OO (wpX11_count a ρ) σ cd w (N + 400) False := fun cd w Qr hq => s_count hr.2.2.2.2 hr.2.2.1 ha (fun x τ f => hq x τ ((hr.read f).mo (by omega)) (hl.k KC.rf f (by decide) (by decide) (by decide)) (fun q => q.elim))
  refine c_count h ha (fun x => ⟨h.mo (by omega), o _ _⟩) ⟨⟨rfl, o _ _⟩, h.mo (by omega)⟩
