/-! P: the reference loads, and its small methods -/
abbrev LF : List Nat := [0, 76, 77, 78]
abbrev LR : List Nat := [74, 75]
theorem s_load {σ : ZS} {N a : Int} {Q : Int → ZS → Prop} (hI : IG σ) (h : MM σ N) (hN : 0 ≤ N) (ha : -2147483648 ≤ a ∧ a ≤ 2147483647) (hQ : ∀ (x : Int) (τ : ZS), MM τ N → fr LF LR σ τ → (0 ≤ x ∧ x ≤ 65535) → Q x τ) : wpX11_load a σ Q := by
  have hf0 : fr LF LR σ (zsI σ 0 0 0) := fr.i (by decide)
  have bad : ∀ r : Int, wpX11_raise r (zsI σ 0 0 0) (fun (x9 : Int) (σ10 : ZS) => Q x9 σ10) := by
    intro r
    have hm : MM (zsI (zsI σ 0 0 0) 0 0 r) N := h
    exact hQ 0 _ hm (hf0.ti (by decide)) (by decide)
  obtain ⟨hIM, i62, i64, i60, i65, i66⟩ := hI
  unfold wpX11_load
  refine ⟨ha, fun _ => bad 1, fun na => ⟨fun la => ⟨by omega, fun _ => ?_, fun _ => bad 2⟩, fun _ => bad 1⟩⟩
  have f191 : ∀ τ : ZS, MM τ N → fr LF LR σ τ → wpX11_load_191 a 0 τ Q := by
    intro τ0 h0 k0
    unfold wpX11_load_191
    refine lfp1_ind (fun v _ => (16 - v).toNat) (fun v τ => (0 ≤ v ∧ v ≤ 16) ∧ MM τ N ∧ fr LF LR σ τ) ?_ ⟨by omega, h0, k0⟩
    intro P v τ ⟨hv, hm, hf⟩ ih
    show wpbX11_load_191 P a v τ Q
    unfold wpbX11_load_191
    have j66 : zI τ 0 66 = zI σ 0 66 := hf.1 66 (by decide)
    have j65 : zI τ 0 65 = zI σ 0 65 := hf.1 65 (by decide)
    refine ⟨by omega, fun _ => hQ _ _ ?_ ?_ (by omega), fun _ => ⟨by omega, ih _ _ ⟨by omega, hm.u75 (by decide), hf.ta (by decide)⟩ (by show (16 - (v + 1)).toNat < (16 - v).toNat; omega)⟩⟩
    · have h1 := ((((hm.u75 (i := 8) (v := a) (by omega)).u75 (i := 10) (v := a) (by omega)).u75 (i := 11) (v := a) (by omega)).u75 (i := 9) (v := (a + zI τ 0 65) % 65536) (by omega)).u75 (i := 12) (v := zI τ 0 66) (by omega)
      exact ((h1.i76 (by decide)).i77).i78 ⟨by decide, hN⟩
    · exact (((((((hf.ta (by decide)).ta (by decide)).ta (by decide)).ta (by decide)).ta (by decide)).ti (by decide)).ti (by decide)).ti (by decide)
  have f96 : ∀ τ : ZS, MM τ N → fr LF LR σ τ → wpX11_load_96 a 0 τ Q := by
    intro τ0 h0 k0
    unfold wpX11_load_96
    refine lfp1_ind (fun v _ => (600 - v).toNat) (fun v τ => (0 ≤ v ∧ v ≤ zI σ 0 64) ∧ MM τ N ∧ fr LF LR σ τ) ?_ ⟨by omega, h0, k0⟩
    intro P v τ ⟨hv, hm, hf⟩ ih
    show wpbX11_load_96 P a v τ Q
    unfold wpbX11_load_96
    have j64 : zI τ 0 64 = zI σ 0 64 := hf.1 64 (by decide)
    have b0 := hm.1 ((16 * a + zA τ 0 63 v) % 4096) (by omega) (by omega)
    have b1 := hm.1 ((16 * a + zA τ 0 63 v + 1) % 4096) (by omega) (by omega)
    rw [zor_bytes (by omega) (by omega)]
    exact ⟨by omega, by omega, fun _ => f191 τ hm hf, fun _ => ⟨by omega, by omega, ih _ _ ⟨by omega, (hm.u74 (by omega)).u74 (by omega), (hf.ta (by decide)).ta (by decide)⟩ (by show (600 - (v + 1)).toNat < (600 - v).toNat; omega)⟩⟩
  have f59 : ∀ τ : ZS, MM τ N → fr LF LR σ τ → wpX11_load_59 a 0 τ Q := by
    intro τ0 h0 k0
    unfold wpX11_load_59
    refine lfp1_ind (fun v _ => (1200 - v).toNat) (fun v τ => (0 ≤ v ∧ v ≤ zI σ 0 62) ∧ MM τ N ∧ fr LF LR σ τ) ?_ ⟨by omega, h0, k0⟩
    intro P v τ ⟨hv, hm, hf⟩ ih
    show wpbX11_load_59 P a v τ Q
    unfold wpbX11_load_59
    have j62 : zI τ 0 62 = zI σ 0 62 := hf.1 62 (by decide)
    refine ⟨by omega, by omega, fun _ => f96 τ hm hf, fun nv => ⟨by omega, ih _ _ ⟨by omega, hm.u74 ?_, hf.ta (by decide)⟩ (by show (1200 - (v + 1)).toNat < (1200 - v).toNat; omega)⟩⟩
    rw [hf.2 61 (by decide)]
    exact hIM.1 v hv.1 (by omega)
  unfold wpX11_load_37
  refine lfp1_ind (fun v _ => (4096 - v).toNat) (fun v τ => (0 ≤ v ∧ v ≤ 4096) ∧ MM τ N ∧ fr LF LR σ τ) ?_ ⟨by omega, h, hf0⟩
  intro P v τ ⟨hv, hm, hf⟩ ih
  show wpbX11_load_37 P a v τ Q
  unfold wpbX11_load_37
  exact ⟨by omega, fun _ => f59 τ hm hf, fun _ => ⟨by omega, ih _ _ ⟨by omega, hm.u74 (by decide), hf.ta (by decide)⟩ (by show (4096 - (v + 1)).toNat < (4096 - v).toNat; omega)⟩⟩
theorem s_drop {σ : ZS} {a : Int} {Q : Int → ZS → Prop} (hG : GM σ) (ha : -2147483648 ≤ a ∧ a ≤ 2147483647) (hQ : ∀ (x : Int) (τ : ZS), GM τ → fr [0] [43] σ τ → (0 ≤ x ∧ x ≤ 1) → Q x τ) : wpX11_drop a σ Q := by
  have bad : wpX11_drop_14 (zsI σ 0 0 0) Q := hQ 0 _ hG ((fr.rf.ti (by decide)).ti (by decide)) (by decide)
  unfold wpX11_drop
  refine ⟨ha, fun _ => bad, fun _ => ⟨fun _ => ?_, fun _ => bad⟩⟩
  have h := hG.2.2.2.2 a (by omega) (by omega)
  exact ⟨by omega, h, hQ _ _ (GM.u43 (σ := zsI σ 0 0 0) hG (by decide)) ((fr.rf.ti (by decide)).ta (by decide)) h⟩
theorem s_append {σ : ZS} {a n : Int} {Q : Int → ZS → Prop} (hT : Tx σ) (hn : -2147483648 ≤ n ∧ n ≤ 2147483647) (hQ : ∀ (x : Int) (τ : ZS), Tx τ → fr [0, 2] [1] σ τ → (0 ≤ x ∧ x ≤ 480) → Q x τ) : wpX11_append a n σ Q := by
  have hf0 : fr [0, 2] [1] σ (zsI σ 0 0 0) := fr.i (by decide)
  have bad : ∀ r : Int, wpX11_raise r (zsI σ 0 0 0) (fun (x9 : Int) (σ10 : ZS) => Q x9 σ10) := by
    intro r
    have hm : Tx (zsI (zsI σ 0 0 0) 0 0 r) := hT
    exact hQ 0 _ hm (hf0.ti (by decide)) (by decide)
  have h2 := hT.1
  unfold wpX11_append
  refine ⟨hn, fun _ => bad 1, fun _ => ⟨fun _ => ?_, fun _ => bad 1⟩⟩
  unfold wpX11_append_25
  refine lfp1_ind (fun v _ => (n - v).toNat) (fun v τ => (0 ≤ v ∧ v ≤ n) ∧ τ = zsI σ 0 0 0 ∧ (∀ j : Int, 0 ≤ j → j < v → 32 ≤ zlshr a (8 * j) % 256 ∧ zlshr a (8 * j) % 256 ≤ 126)) ?_ ⟨by omega, rfl, fun j x y => absurd y (by omega)⟩
  intro P v τ ⟨hv, he, hb⟩ ih
  rw [he]
  show wpbX11_append_25 P a n v (zsI σ 0 0 0) Q
  unfold wpbX11_append_25
  have e2 : zI (zsI σ 0 0 0) 0 2 = zI σ 0 2 := rfl
  rw [e2]
  refine ⟨by omega, by omega, fun _ => ⟨by omega, fun le => ?_, fun _ => bad 2⟩, fun nv => ⟨fun _ => bad 1, fun g1 => ⟨fun g2 => ih _ _ ⟨by omega, rfl, fun j x y => ?_⟩ (by show (n - (v + 1)).toNat < (n - v).toNat; omega), fun _ => bad 1⟩⟩⟩
  · have hev : v = n := by omega
    unfold wpX11_append_94
    refine lfp1_ind (fun w _ => (w + 1).toNat) (fun w τ => (-1 ≤ w ∧ w < n) ∧ Tx τ ∧ fr [0, 2] [1] σ τ ∧ zI τ 0 2 + w + 1 ≤ 480) ?_ ⟨by omega, hT, hf0, by show zI σ 0 2 + (n - 1) + 1 ≤ 480; omega⟩
    intro P2 w υ ⟨hw, hTu, hf, hl⟩ ih2
    show wpbX11_append_94 P2 a w υ Q
    unfold wpbX11_append_94
    have hu := hTu.1
    refine ⟨by omega, fun _ => hQ _ _ hTu hf hu, fun nw => ⟨by omega, ih2 _ _ ⟨by omega, ⟨?_, fun j j0 j1 => ?_, hTu.2.2⟩, (hf.ta (by decide)).ti (by decide), ?_⟩ (by show (w + -1 + 1).toNat < (w + 1).toNat; omega)⟩⟩
    · show 0 ≤ zI υ 0 2 + 1 ∧ zI υ 0 2 + 1 ≤ 480
      omega
    · have j1' : j < zI υ 0 2 + 1 := j1
      show 32 ≤ zu (zA υ 0 1) (zI υ 0 2) (zlshr a (8 * w) % 256) j ∧ zu (zA υ 0 1) (zI υ 0 2) (zlshr a (8 * w) % 256) j ≤ 126
      by_cases e : j = zI υ 0 2
      · rw [e, pu_eq]; exact hb w (by omega) (by omega)
      · rw [pu_ne e]; exact hTu.2.1 j j0 (by omega)
    · show zI υ 0 2 + 1 + (w + -1) + 1 ≤ 480
      omega
  · by_cases e : j = v
    · rw [e]; omega
    · exact hb j x (by omega)
