/-! the two sides' append, in full -/
theorem z_b8 (b : BitVec 64) (s : Nat) (hs : s ≤ 56) : (b >>> s).toInt % 256 = (b.sshiftRight s).toInt % 256 := by
  have m : ∀ c : BitVec 64, c.toInt % 256 = ((c.toNat % 256 : Nat) : Int) := by
    intro c
    have := c.isLt
    rw [BitVec.toInt_eq_toNat_cond]
    split <;> omega
  rw [m, m]
  have e : ∀ c : BitVec 64, c.toNat % 256 = (c.setWidth 8).toNat := fun c => by rw [BitVec.toNat_setWidth]
  rw [e, e]
  have q : (b >>> s).setWidth 8 = (b.sshiftRight s).setWidth 8 := by
    apply BitVec.eq_of_getLsbD_eq
    intro i hi
    rw [BitVec.getLsbD_setWidth, BitVec.getLsbD_setWidth, BitVec.getLsbD_sshiftRight, BitVec.getLsbD_ushiftRight, if_pos (show s + i < 64 by omega)]
    have : ¬ 64 ≤ i := by omega
    simp [hi, this]
  rw [q]
theorem z_lb {v j : Int} (h : 0 ≤ j ∧ j ≤ 7) : zlushr v (8 * j) % 256 = zlshr v (8 * j) % 256 := by
  have key : ∀ (s : Nat), s ≤ 56 → (((Int32.ofInt (8 * j)).toInt64 &&& 63).toBitVec.smod 64).toNat = s → (((Int32.ofInt (8 * j)).toInt64.toUInt64 &&& Int64.toUInt64 63).toBitVec % 64).toNat = s → zlushr v (8 * j) % 256 = zlshr v (8 * j) % 256 := by
    intro s hs e1 e2
    have r := z_b8 (Int64.ofInt v).toBitVec s hs
    show ((Int64.ofInt v).toBitVec >>> (((Int32.ofInt (8 * j)).toInt64.toUInt64 &&& Int64.toUInt64 63).toBitVec % 64).toNat).toInt % 256 = ((Int64.ofInt v).toBitVec.sshiftRight (((Int32.ofInt (8 * j)).toInt64 &&& 63).toBitVec.smod 64).toNat).toInt % 256
    rw [e1, e2]; exact r
  obtain rfl | rfl | rfl | rfl | rfl | rfl | rfl | rfl : j = 0 ∨ j = 1 ∨ j = 2 ∨ j = 3 ∨ j = 4 ∨ j = 5 ∨ j = 6 ∨ j = 7 := by omega
  · exact key 0 (by decide) (by decide) (by decide)
  · exact key 8 (by decide) (by decide) (by decide)
  · exact key 16 (by decide) (by decide) (by decide)
  · exact key 24 (by decide) (by decide) (by decide)
  · exact key 32 (by decide) (by decide) (by decide)
  · exact key 40 (by decide) (by decide) (by decide)
  · exact key 48 (by decide) (by decide) (by decide)
  · exact key 56 (by decide) (by decide) (by decide)
def apok (v n : Int) : Prop := (1 ≤ n ∧ n ≤ 8) ∧ ∀ j : Int, 0 ≤ j → j < n → 32 ≤ zlshr v (8 * j) % 256 ∧ zlshr v (8 * j) % 256 ≤ 126
def apT (h : Int → Int) (l v n m : Int) : Int → Int := fun j => if l ≤ j ∧ j < l + m then zlshr v (8 * (n - 1 - (j - l))) % 256 else h j
theorem apT_0 {h : Int → Int} {l v n : Int} : apT h l v n 0 = h := by
  funext j
  exact if_neg (by omega)
theorem apT_s {h : Int → Int} {l v n m : Int} (hm : 0 ≤ m) : zu (apT h l v n m) (l + m) (zlshr v (8 * (n - 1 - m)) % 256) = apT h l v n (m + 1) := by
  funext j
  show (if j = l + m then _ else (if l ≤ j ∧ j < l + m then _ else h j)) = (if l ≤ j ∧ j < l + (m + 1) then _ else h j)
  by_cases e : j = l + m
  · rw [if_pos e, if_pos (by omega), e, show l + m - l = m by omega]
  · rw [if_neg e]
    by_cases e' : l ≤ j ∧ j < l + m
    · rw [if_pos e', if_pos (by omega)]
    · rw [if_neg e', if_neg (by omega)]
theorem e_append {σ : ZS} {N v n : Int} {Q : Int → ZS → Prop} (h : RI σ N) (hn : -2147483648 ≤ n ∧ n ≤ 2147483647) (hB : ¬ apok v n → ∀ τ : ZS, RI τ N → zI τ 0 0 = 1 → zI τ 0 2 = zI σ 0 2 → zA τ 0 1 = zA σ 0 1 → Q 0 τ) (hF : apok v n → 480 < zI σ 0 2 + n → ∀ τ : ZS, RI τ N → zI τ 0 0 = 2 → zI τ 0 2 = zI σ 0 2 → zA τ 0 1 = zA σ 0 1 → Q 0 τ) (hO : apok v n → zI σ 0 2 + n ≤ 480 → ∀ τ : ZS, RI τ N → zI τ 0 0 = 0 → zI τ 0 2 = zI σ 0 2 + n → zA τ 0 1 = apT (zA σ 0 1) (zI σ 0 2) v n n → Q (zI σ 0 2 + n) τ) : wpX11_append v n σ Q := by
  have hf0 : fr [0] [] σ (zsI σ 0 0 0) := fr.i (by decide)
  have bad : ¬ apok v n → wpX11_raise 1 (zsI σ 0 0 0) (fun (x9 : Int) (σ10 : ZS) => Q x9 σ10) := fun q => hB q _ (h.read (hf0.ti (by decide))) rfl rfl rfl
  have h2 := h.1.1.1
  unfold wpX11_append wpX11_append_16
  refine ⟨hn, fun q => bad (fun a => by have := a.1; omega), fun g1 => ⟨fun g8 => ?_, fun q => bad (fun a => by have := a.1; omega)⟩⟩
  unfold wpX11_append_25
  refine lfp1_ind (fun w _ => (n - w).toNat) (fun w τ => (0 ≤ w ∧ w ≤ n) ∧ τ = zsI σ 0 0 0 ∧ (∀ j : Int, 0 ≤ j → j < w → 32 ≤ zlshr v (8 * j) % 256 ∧ zlshr v (8 * j) % 256 ≤ 126)) ?_ ⟨by omega, rfl, fun j x y => absurd y (by omega)⟩
  intro P w τ ⟨hw, he, hb⟩ ih
  rw [he]
  show wpbX11_append_25 P v n w (zsI σ 0 0 0) Q
  unfold wpbX11_append_25 wpX11_append_59
  have e2 : zI (zsI σ 0 0 0) 0 2 = zI σ 0 2 := rfl
  rw [e2]
  refine ⟨by omega, by omega, fun q => ?_, fun nv => ⟨fun q => bad (fun a => by have := a.2 w hw.1 (by omega); omega), fun g1 => ⟨fun g2 => ih _ _ ⟨by omega, rfl, fun j x y => ?_⟩ (by omega), fun q => bad (fun a => by have := a.2 w hw.1 (by omega); omega)⟩⟩⟩
  · have ok : apok v n := ⟨by omega, fun j j0 j1 => hb j j0 (by omega)⟩
    refine ⟨by omega, fun le => ?_, fun nle => hF ok (by omega) _ (h.read (hf0.ti (by decide))) rfl rfl rfl⟩
    unfold wpX11_append_94
    refine lfp1_ind (fun u _ => (u + 1).toNat) (fun u τ => (-1 ≤ u ∧ u < n) ∧ Tx τ ∧ fr [0, 2] [1] σ τ ∧ zI τ 0 0 = 0 ∧ zI τ 0 2 = zI σ 0 2 + (n - 1 - u) ∧ zA τ 0 1 = apT (zA σ 0 1) (zI σ 0 2) v n (n - 1 - u)) ?_ ⟨by omega, h.1.1, (hf0.up (by decide) (by decide)), rfl, ?_, ?_⟩
    · intro P2 u υ ⟨hu, hTu, hf, h0, hl, ht⟩ ih2
      show wpbX11_append_94 P2 v u υ Q
      unfold wpbX11_append_94
      have hu1 := hTu.1
      refine ⟨by omega, fun q => ?_, fun nq => ⟨by omega, ih2 _ _ ⟨by omega, ⟨?_, fun j j0 j1 => ?_, hTu.2.2⟩, (hf.ta (by decide)).ti (by decide), h0, ?_, ?_⟩ (by omega)⟩⟩
      · have eu : u = -1 := by omega
        rw [hl, eu, show n - 1 - (-1 : Int) = n by omega]
        refine hO ok le υ ⟨⟨hTu, ?_⟩, h.2.1.up (hf.2 16 (by decide)), h.2.2.1.up (hf.an (by decide)), h.2.2.2.1.same (hf.in (by decide)) (hf.an (by decide)), h.2.2.2.2.same (hf.in (by decide)) (hf.an (by decide))⟩ h0 (by rw [hl, eu]; omega) (by rw [ht, eu, show n - 1 - (-1 : Int) = n by omega])
        have g := h.1.2
        unfold G1 G2 G3 at g ⊢
        rw [hf.1 8 (by decide), hf.1 9 (by decide), hf.1 10 (by decide), hf.1 37 (by decide), hf.1 38 (by decide), hf.1 39 (by decide), hf.1 41 (by decide), hf.1 42 (by decide), hf.2 12 (by decide), hf.2 13 (by decide), hf.2 14 (by decide), hf.2 15 (by decide), hf.2 19 (by decide), hf.2 20 (by decide), hf.2 21 (by decide), hf.2 22 (by decide), hf.2 24 (by decide), hf.2 25 (by decide), hf.2 26 (by decide), hf.2 27 (by decide), hf.2 28 (by decide), hf.2 30 (by decide), hf.2 35 (by decide)]
        exact g
      · show 0 ≤ zI υ 0 2 + 1 ∧ zI υ 0 2 + 1 ≤ 480
        omega
      · have j1' : j < zI υ 0 2 + 1 := j1
        show 32 ≤ zu (zA υ 0 1) (zI υ 0 2) (zlshr v (8 * u) % 256) j ∧ zu (zA υ 0 1) (zI υ 0 2) (zlshr v (8 * u) % 256) j ≤ 126
        by_cases e : j = zI υ 0 2
        · rw [e, pu_eq]; exact ok.2 u (by omega) (by omega)
        · rw [pu_ne e]; exact hTu.2.1 j j0 (by omega)
      · show zI υ 0 2 + 1 = zI σ 0 2 + (n - 1 - (u + -1))
        omega
      · show zu (zA υ 0 1) (zI υ 0 2) (zlshr v (8 * u) % 256) = _
        rw [ht, hl]
        have r := apT_s (h := zA σ 0 1) (l := zI σ 0 2) (v := v) (n := n) (m := n - 1 - u) (by omega)
        rw [show n - 1 - (n - 1 - u) = u by omega] at r
        rw [r, show n - 1 - u + 1 = n - 1 - (u + -1) by omega]
    · show zI σ 0 2 = zI σ 0 2 + (n - 1 - (n - 1))
      omega
    · show zA σ 0 1 = _
      rw [show n - 1 - (n - 1) = 0 by omega, apT_0]
  · by_cases e : j = w
    · rw [e]; omega
    · exact hb j x (by omega)
theorem c_append {σ : ZS} {N v n : Int} {Q : Int → ZS → Prop} {X : String → ZS → Prop} (h : CI σ N) (hn : -2147483648 ≤ n ∧ n ≤ 2147483647) (hB : ¬ apok v n → X xIAE σ) (hF : apok v n → 480 < zI σ 10 1 + n → X xIOB σ) (hO : apok v n → zI σ 10 1 + n ≤ 480 → ∀ τ : ZS, CI τ N → zI τ 10 1 = zI σ 10 1 + n → zA τ 10 0 = apT (zA σ 10 0) (zI σ 10 1) v n n → Q (zI σ 10 1 + n) τ) : wpX10_append v n σ Q X := by
  obtain ⟨hT, hr⟩ := h
  have h2 := hT.1
  unfold wpX10_append wpX10_append_11
  refine ⟨hn, fun q => hB (fun a => by have := a.1; omega), fun g1 => ⟨fun g8 => ?_, fun q => hB (fun a => by have := a.1; omega)⟩⟩
  unfold wpX10_append_24
  refine lfp1_ind (fun w _ => (n - w).toNat) (fun w τ => (0 ≤ w ∧ w ≤ n) ∧ τ = σ ∧ (∀ j : Int, 0 ≤ j → j < w → 32 ≤ zlshr v (8 * j) % 256 ∧ zlshr v (8 * j) % 256 ≤ 126)) ?_ ⟨by omega, rfl, fun j x y => absurd y (by omega)⟩
  intro P w τ ⟨hw, he, hb⟩ ih
  rw [he]
  show wpbX10_append_24 P v n w σ Q X
  unfold wpbX10_append_24 wpX10_append_52 wpX10_byteOf
  refine ⟨by omega, by omega, fun q => ?_, fun nv => ?_⟩
  · have ok : apok v n := ⟨by omega, fun j j0 j1 => hb j j0 (by omega)⟩
    refine ⟨by omega, fun le => ?_, fun nle => hF ok (by omega)⟩
    unfold wpX10_append_95
    refine lfp1_ind (fun u _ => (u + 1).toNat) (fun u τ => (-1 ≤ u ∧ u < n) ∧ TX τ ∧ kp [10] σ τ ∧ zI τ 10 1 = zI σ 10 1 + (n - 1 - u) ∧ zA τ 10 0 = apT (zA σ 10 0) (zI σ 10 1) v n (n - 1 - u)) ?_ ⟨by omega, hT, kp.rf, by omega, by rw [show n - 1 - (n - 1) = 0 by omega, apT_0]⟩
    intro P2 u υ ⟨hu, hTu, hk, hl, ht⟩ ih2
    show wpbX10_append_95 P2 v u υ Q X
    unfold wpbX10_append_95 wpX10_byteOf
    have hu1 := hTu.1
    refine ⟨by omega, fun q => ?_, fun nq => ?_⟩
    · have eu : u = -1 := by omega
      rw [hl, eu, show n - 1 - (-1 : Int) = n by omega]
      obtain ⟨r1, r2, r3, r4, r5, r6⟩ := hr
      refine hO ok le υ ⟨hTu, r1.k (hk 11 (by decide)), r2.k (hk 15 (by decide)), r3.k hk (by decide) (by decide) (by decide), r4.k (hk 16 (by decide)), r5.k (hk 17 (by decide)), r6.k (hk 18 (by decide))⟩ (by rw [hl, eu]; omega) (by rw [ht, eu, show n - 1 - (-1 : Int) = n by omega])
    · have oku := ok.2 u (by omega) (by omega)
      rw [z_lb (by omega)]
      dsimp only
      rw [show zlshr v (8 * u) % 256 % 65536 = zlshr v (8 * u) % 256 by omega]
      refine ⟨by omega, ih2 _ _ ⟨by omega, ⟨?_, rng_zu hTu.2.1 (by omega), fun j j0 j1 => ?_⟩, (hk.ta (by decide)).ti (by decide), ?_, ?_⟩ (by omega)⟩
      · show 0 ≤ zI υ 10 1 + 1 ∧ zI υ 10 1 + 1 ≤ 480
        omega
      · have j1' : j < zI υ 10 1 + 1 := j1
        show 32 ≤ zu (zA υ 10 0) (zI υ 10 1) (zlshr v (8 * u) % 256) j
        by_cases e : j = zI υ 10 1
        · rw [e, pu_eq]; exact oku.1
        · rw [pu_ne e]; exact hTu.2.2 j j0 (by omega)
      · show zI υ 10 1 + 1 = zI σ 10 1 + (n - 1 - (u + -1))
        omega
      · show zu (zA υ 10 0) (zI υ 10 1) (zlshr v (8 * u) % 256) = _
        rw [ht, hl]
        have r := apT_s (h := zA σ 10 0) (l := zI σ 10 1) (v := v) (n := n) (m := n - 1 - u) (by omega)
        rw [show n - 1 - (n - 1 - u) = u by omega] at r
        rw [r, show n - 1 - u + 1 = n - 1 - (u + -1) by omega]
  · rw [z_lb (by omega)]
    refine ⟨by omega, fun q => hB (fun a => by have := a.2 w hw.1 (by omega); omega), fun g1 => ⟨fun g2 => ih _ _ ⟨by omega, rfl, fun j x y => ?_⟩ (by omega), fun q => hB (fun a => by have := a.2 w hw.1 (by omega); omega)⟩⟩
    by_cases e : j = w
    · rw [e]; omega
    · exact hb j x (by omega)
theorem i_drop {σ : ZS} {N a : Int} {Q : Int → ZS → Prop} (h : RI σ N) (ha : -2147483648 ≤ a ∧ a ≤ 2147483647) (hQ : ∀ (r : Int) (τ : ZS), RI τ N → (zI τ 0 2 = zI σ 0 2 ∧ zA τ 0 1 = zA σ 0 1) → (0 ≤ r ∧ r ≤ 1) → Q r τ) : wpX11_drop a σ Q := by
  obtain ⟨h1, h2, h3, h4, h5⟩ := h
  refine s_drop h3.1 ha (fun x τ g f hx => hQ x τ ⟨h1.same (f.in (by decide)) (f.an (by decide)), h2.up (f.2 16 (by decide)), ⟨g, fun m m0 m2 => ?_⟩, h4.same (f.in (by decide)) (f.an (by decide)), h5.same (f.in (by decide)) (f.an (by decide))⟩ ⟨f.1 2 (by decide), f.2 1 (by decide)⟩ hx)
  have hm := h3.2 m m0 m2
  unfold MI
  rw [f.2 44 (by decide), f.2 50 (by decide), f.2 56 (by decide), f.2 46 (by decide), f.2 47 (by decide), f.2 48 (by decide), f.2 51 (by decide), f.2 52 (by decide), f.2 53 (by decide), f.2 54 (by decide), f.2 58 (by decide), f.2 59 (by decide)]
  exact hm
/-! the class's other methods -/
theorem CI.mo {σ : ZS} {N M : Int} (h : CI σ N) (hM : N ≤ M) : CI σ M := ⟨h.1, h.2.1, h.2.2.1, h.2.2.2.1, h.2.2.2.2.1, h.2.2.2.2.2.1, h.2.2.2.2.2.2.mo hM⟩
theorem c_drop {σ : ZS} {N a : Int} {Q : Int → ZS → Prop} {X : String → ZS → Prop} (h : CI σ N) (ha : -2147483648 ≤ a ∧ a ≤ 2147483647) (hQ : ∀ (x : Int) (τ : ZS), CI τ N → (zI τ 10 1 = zI σ 10 1 ∧ zA τ 10 0 = zA σ 10 0) → (0 ≤ x ∧ x ≤ 1) → Q x τ) (hX : X xIAE σ) : wpX10_drop a σ Q X := by
  obtain ⟨r0, r1, r2, r3, r4, r5, r6⟩ := h
  unfold wpX10_drop
  refine c_isModule ha (fun a0 a2 => ⟨by decide, fun _ => ⟨by omega, c_mclear ⟨a0, a2⟩ (fun τ tm tk _ _ _ _ => ?_)⟩, fun q => absurd q (by decide)⟩) (fun no => ⟨by decide, fun q => absurd rfl q, fun _ => hX⟩)
  have na : ∀ g : Int, 3 ≤ g → g ∉ [a] := fun g hg => n_1 (by omega)
  have hr := (r3 a a0 a2).1
  refine ⟨hr, hQ _ τ ⟨r0.k (tk 10 (na 10 (by decide))), r1.k (tk 11 (na 11 (by decide))), r2.k (tk 15 (na 15 (by decide))), fun m m0 m2 => ?_, r4.k (tk 16 (na 16 (by decide))), r5.k (tk 17 (na 17 (by decide))), r6.k (tk 18 (na 18 (by decide)))⟩ ⟨tk.I (na 10 (by decide)) 1, tk.A (na 10 (by decide)) 0⟩ hr⟩
  by_cases e : m = a
  · rw [e]; exact tm
  · exact (r3 m m0 m2).k (tk m (n_1 e))
theorem c_link {σ : ZS} {N : Int} {Q : Int → ZS → Prop} {X : String → ZS → Prop} (h : CI σ N) (hQ : ∀ (x : Int) (τ : ZS), CI τ N → (zI τ 10 1 = zI σ 10 1 ∧ zA τ 10 0 = zA σ 10 0) → (0 ≤ x ∧ x ≤ 1200) → Q x τ) (hX : ∀ (s : String) (τ : ZS), s = xISE ∨ s = xUOE ∨ s = xNSE ∨ s = xIOB ∨ s = xARI → CI τ N → (zI τ 10 1 = zI σ 10 1 ∧ zA τ 10 0 = zA σ 10 0) → X s τ) : wpX10_link σ Q X := by
  obtain ⟨r0, r1, r2, r3, r4, r5, r6⟩ := h
  have h : CI σ N := ⟨r0, r1, r2, r3, r4, r5, r6⟩
  have fin : ∀ (τ : ZS) (v w : Int), kp [16, 17] σ τ → LKc τ → IMc τ → CI (zsI (zsI τ 10 2 v) 10 3 w) N ∧ (zI (zsI (zsI τ 10 2 v) 10 3 w) 10 1 = zI σ 10 1 ∧ zA (zsI (zsI τ 10 2 v) 10 3 w) 10 0 = zA σ 10 0) := by
    intro τ v w tk tl ti
    have kk : ∀ g : Int, g ≠ 10 → ob (zsI (zsI τ 10 2 v) 10 3 w) g = ob τ g := fun g hg => (ob_i hg).trans (ob_i hg)
    have c1 : ∀ g : Int, g ∉ [(16 : Int), 17] → g ≠ 10 → ob (zsI (zsI τ 10 2 v) 10 3 w) g = ob σ g := fun g h1 h2 => (kk g h2).trans (tk g h1)
    have tX : TX τ := r0.k (tk 10 (by decide))
    exact ⟨⟨tX, r1.k (c1 11 (by decide) (by decide)), r2.k (c1 15 (by decide) (by decide)), fun m m0 m2 => (r3 m m0 m2).k (c1 m (m_no (by omega) (by omega)) (by omega)), tl.k (kk 16 (by decide)), ti.k (kk 17 (by decide)), r6.k (c1 18 (by decide) (by decide))⟩, tk.I (by decide) 1, tk.A (by decide) 0⟩
  have bad : ∀ (s : String) (v w : Int) (τ : ZS), s = xISE ∨ s = xUOE ∨ s = xNSE ∨ s = xIOB ∨ s = xARI → kp [16, 17] σ τ → LKc τ → IMc τ → X s (zsI (zsI τ 10 2 v) 10 3 w) := fun s v w τ hs tk tl ti => hX s _ hs (fin τ v w tk tl ti).1 (fin τ v w tk tl ti).2
  unfold wpX10_link wpX10_tell
  refine c_hasModules r3 (fun x hx => ⟨by omega, fun _ => ?_, fun _ => hX _ σ (Or.inl rfl) h ⟨rfl, rfl⟩⟩)
  refine c_firstPublicTwice r3 (fun y hy => ⟨by omega, fun _ => ?_, fun _ => bad _ _ _ σ (Or.inr (Or.inl rfl)) kp.rf r4 r5⟩)
  refine c_firstUnsolved r3 (fun z hz => ⟨by omega, fun _ => ?_, fun _ => bad _ _ _ σ (Or.inr (Or.inr (Or.inl rfl))) kp.rf r4 r5⟩)
  refine c_hasMain r3 (fun u hu => ⟨by omega, fun _ => ?_, fun _ => bad _ _ _ σ (Or.inr (Or.inr (Or.inl rfl))) kp.rf r4 r5⟩)
  refine c_combine r3 r4 (fun e τ tl tk he hp => ?_)
  have t5 : IMc τ := r5.k (tk 17 (by decide))
  have tM : M3 τ := r3.k tk (by decide) (by decide) (by decide)
  refine ⟨by omega, fun le => ?_, fun _ => bad _ _ _ τ (Or.inr (Or.inr (Or.inr (Or.inl rfl)))) (tk.up (by decide)) tl t5⟩
  refine c_firstApart tM tl (fun f hf => ⟨by omega, fun _ => ?_, fun _ => bad _ _ _ τ (Or.inr (Or.inr (Or.inr (Or.inr rfl)))) (tk.up (by decide)) tl t5⟩)
  refine c_lwrite tM tl t5 ⟨he.1, le⟩ hp (fun υ ui uk => ?_)
  have f1 := fin υ (-1) (-1) ((tk.up (by decide)).tr (uk.up (by decide))) (tl.k (uk 16 (by decide))) ui
  exact hQ e _ f1.1 f1.2 ⟨he.1, le⟩
theorem CI.m {σ τ : ZS} {N M : Int} (h : CI σ N) (g : CG σ M τ) : CI τ M ∧ (zI τ 10 1 = zI σ 10 1 ∧ zA τ 10 0 = zA σ 10 0) := by
  obtain ⟨r0, r1, r2, r3, r4, r5, r6⟩ := h
  have k := g.2
  exact ⟨⟨r0.k (k 10 (by decide)), r1.k (k 11 (by decide)), r2.k (k 15 (by decide)), r3.k k (by decide) (by decide) (by decide), r4.k (k 16 (by decide)), r5.k (k 17 (by decide)), g.1⟩, k.I (by decide) 1, k.A (by decide) 0⟩
theorem c_load {σ : ZS} {N a : Int} {Q : Int → ZS → Prop} {X : String → ZS → Prop} (h : CI σ N) (hN : 0 ≤ N) (ha : -2147483648 ≤ a ∧ a ≤ 2147483647) (hQ : ∀ (x : Int) (τ : ZS), CI τ N → (zI τ 10 1 = zI σ 10 1 ∧ zA τ 10 0 = zA σ 10 0) → (0 ≤ x ∧ x ≤ 100000) → Q x τ) (hX : ∀ s : String, s = xIAE ∨ s = xISE → X s σ) : wpX10_load a σ Q X := by
  have i0 := h.2.2.2.2.2.1.1
  unfold wpX10_load wpX10_load_11
  exact ⟨ha, fun _ => hX _ (Or.inl rfl), fun _ => ⟨fun _ => ⟨by omega, fun _ => c_start h.2.2.2.2.2.2 hN h.2.2.2.2.2.1 (by omega) (fun τ g => hQ _ τ (h.m g).1 (h.m g).2 g.1.ip), fun _ => hX _ (Or.inr rfl)⟩, fun _ => hX _ (Or.inl rfl)⟩⟩
theorem c_run {σ : ZS} {N a : Int} {Q : Int → ZS → Prop} {X : String → ZS → Prop} (h : CI σ N) (hN : 0 ≤ N ∧ N ≤ 100000) (ha : -2147483648 ≤ a ∧ a ≤ 2147483647) (hQ : ∀ (x : Int) (τ : ZS), CI τ (N + 400) → (zI τ 10 1 = zI σ 10 1 ∧ zA τ 10 0 = zA σ 10 0) → (0 ≤ x ∧ x ≤ 3) → Q x τ) (hX : ∀ s : String, s = xIAE ∨ s = xISE → X s σ) : wpX10_run a σ Q X := by
  have c7 := h.2.2.2.2.2.2.2.2.2.2.2.2.2.1
  unfold wpX10_run wpX10_run_12
  exact ⟨ha, fun _ => hX _ (Or.inl rfl), fun _ => ⟨fun _ => ⟨by omega, fun _ => c_go h.2.2.2.2.2.2 hN (by omega) (fun x τ g hx => hQ x τ (h.m g).1 (h.m g).2 hx), fun _ => hX _ (Or.inr rfl)⟩, fun _ => hX _ (Or.inl rfl)⟩⟩
theorem c_code {σ : ZS} {N a b c : Int} {Q : Int → ZS → Prop} {X : String → ZS → Prop} (h : CI σ N) (ha : -2147483648 ≤ a ∧ a ≤ 2147483647) (hb : -2147483648 ≤ b ∧ b ≤ 2147483647) (hc : -2147483648 ≤ c ∧ c ≤ 2147483647) (hQ : ∀ x : Int, Q x σ) (hX : X xIOB σ) : wpX10_code a b c σ Q X := by
  unfold wpX10_code wpX10_code_38 wpX10_code_63
  refine c_isModule ha (fun a0 a2 => ⟨by decide, fun _ => ?_, fun q => absurd q (by decide)⟩) (fun no => ⟨by decide, fun q => absurd rfl q, fun _ => hX⟩)
  have m := h.2.2.2.1 a a0 a2
  have m1 := m.2.1
  refine ⟨by omega, hb, fun _ => hX, fun _ => ⟨by omega, fun lt => ⟨hc, fun _ => hX, fun _ => ?_⟩, fun _ => hX⟩⟩
  have s := m.2.2.2.2.1 b (by omega) lt
  exact ⟨by omega, by omega, fun _ => ⟨by omega, hQ _⟩, fun _ => hX⟩
theorem c_fixup {σ : ZS} {N a b c : Int} {Q : Int → ZS → Prop} {X : String → ZS → Prop} (h : CI σ N) (ha : -2147483648 ≤ a ∧ a ≤ 2147483647) (hb : -2147483648 ≤ b ∧ b ≤ 2147483647) (hc : -2147483648 ≤ c ∧ c ≤ 2147483647) (hQ : ∀ x : Int, Q x σ) (hX : ∀ s : String, s = xIAE ∨ s = xIOB → X s σ) : wpX10_fixup a b c σ Q X := by
  unfold wpX10_fixup wpX10_fixup_57 wpX10_fixup_9
  refine ⟨hc, fun _ => hX _ (Or.inl rfl), fun _ => ⟨fun _ => c_isModule ha (fun a0 a2 => ⟨by decide, fun _ => ?_, fun q => absurd q (by decide)⟩) (fun no => ⟨by decide, fun q => absurd rfl q, fun _ => hX _ (Or.inr rfl)⟩), fun _ => hX _ (Or.inl rfl)⟩⟩
  have m := h.2.2.2.1 a a0 a2
  have m7 := m.2.2.1
  exact ⟨by omega, hb, fun _ => hX _ (Or.inr rfl), fun _ => ⟨by omega, fun lt => ⟨fun _ => ⟨by omega, hQ _⟩, fun _ => ⟨fun _ => ⟨by omega, hQ _⟩, fun _ => ⟨fun _ => ⟨by omega, hQ _⟩, fun _ => ⟨by omega, hQ _⟩⟩⟩⟩, fun _ => hX _ (Or.inr rfl)⟩⟩
theorem c_image {σ : ZS} {N a : Int} {Q : Int → ZS → Prop} {X : String → ZS → Prop} (h : CI σ N) (ha : -2147483648 ≤ a ∧ a ≤ 2147483647) (hQ : ∀ x : Int, Q x σ) (hX : X xIOB σ) : wpX10_image a σ Q X := by
  have i := h.2.2.2.2.2.1.2.1
  unfold wpX10_image wpX10_image_15
  exact ⟨ha, fun _ => hX, fun _ => ⟨by omega, fun _ => ⟨by omega, hQ _⟩, fun _ => hX⟩⟩
theorem c_memory {σ : ZS} {a : Int} {Q : Int → ZS → Prop} {X : String → ZS → Prop} (ha : -2147483648 ≤ a ∧ a ≤ 2147483647) (hQ : ∀ x : Int, Q x σ) (hX : X xIAE σ) : wpX10_memory a σ Q X := by
  unfold wpX10_memory wpX10_memory_11
  exact ⟨ha, fun _ => hX, fun _ => ⟨fun _ => ⟨by omega, hQ _⟩, fun _ => hX⟩⟩
theorem c_register {σ : ZS} {a : Int} {Q : Int → ZS → Prop} {X : String → ZS → Prop} (ha : -2147483648 ≤ a ∧ a ≤ 2147483647) (hQ : ∀ x : Int, Q x σ) (hX : X xIAE σ) : wpX10_register a σ Q X := by
  unfold wpX10_register wpX10_register_10
  exact ⟨ha, fun _ => hX, fun _ => ⟨fun _ => ⟨fun _ => ⟨fun _ => ⟨fun _ => hQ _, fun _ => ⟨fun _ => hQ _, fun _ => ⟨fun _ => hQ _, fun _ => hQ _⟩⟩⟩, fun _ => ⟨by omega, hQ _⟩⟩, fun _ => ⟨by omega, hQ _⟩⟩, fun _ => hX⟩⟩
theorem c_trace {σ : ZS} {N a : Int} {Q : Int → ZS → Prop} {X : String → ZS → Prop} (h : CI σ N) (hN : N ≤ 1000000) (ha : -2147483648 ≤ a ∧ a ≤ 2147483647) (hQ : ∀ x : Int, Q x σ) (hX : X xIOB σ) : wpX10_trace a σ Q X := by
  have c9 := h.2.2.2.2.2.2.2.2.2.2.2.2.2.2.1
  unfold wpX10_trace wpX10_trace_21
  exact ⟨ha, fun _ => hX, fun _ => ⟨fun _ => hX, fun _ => ⟨by omega, fun _ => ⟨by omega, hQ _⟩, fun _ => hX⟩⟩⟩
theorem c_count {σ : ZS} {N a : Int} {Q : Int → ZS → Prop} {X : String → ZS → Prop} (h : CI σ N) (ha : -2147483648 ≤ a ∧ a ≤ 2147483647) (hQ : ∀ x : Int, Q x σ) (hX : X xIAE σ) : wpX10_count a σ Q X := by
  have c7 := h.2.2.2.2.2.2.2.2.2.2.2.2.2.1
  unfold wpX10_count wpX10_count_10 wpX10_count_166
  exact ⟨ha, fun _ => hX, fun _ => ⟨fun _ => ⟨fun _ => ⟨fun _ => ⟨fun _ => hQ _, fun _ => ⟨fun _ => hQ _, fun _ => ⟨fun _ => hQ _, fun _ => ⟨fun _ => hQ _, fun _ => ⟨fun _ => hQ _, fun _ => ⟨fun _ => hQ _, fun _ => ⟨fun _ => hQ _, fun _ => ⟨by omega, fun _ => hQ _, fun _ => hQ _⟩⟩⟩⟩⟩⟩⟩⟩, fun _ => ⟨by omega, hQ _⟩⟩, fun _ => ⟨by omega, hQ _⟩⟩, fun _ => hX⟩⟩
