/-! C: the machine -/
def CM (σ : ZS) (N : Int) : Prop := (∀ i : Int, 0 ≤ i → i < 4096 → 0 ≤ zA σ 18 0 i ∧ zA σ 18 0 i ≤ 255) ∧ (∀ i : Int, 0 ≤ i → i < 8 → 0 ≤ zA σ 18 1 i ∧ zA σ 18 1 i ≤ 65535) ∧ (∀ i : Int, 0 ≤ i → i < 4 → 0 ≤ zA σ 18 2 i ∧ zA σ 18 2 i ≤ 300000) ∧ (0 ≤ zI σ 18 3 ∧ zI σ 18 3 ≤ 100000) ∧ (0 ≤ zI σ 18 4 ∧ zI σ 18 4 ≤ 1) ∧ (0 ≤ zI σ 18 5 ∧ zI σ 18 5 ≤ 1) ∧ (0 ≤ zI σ 18 6 ∧ zI σ 18 6 ≤ 1) ∧ (0 ≤ zI σ 18 7 ∧ zI σ 18 7 ≤ 1) ∧ (0 ≤ zI σ 18 9 ∧ zI σ 18 9 ≤ N) ∧ (0 ≤ zI σ 18 11 ∧ zI σ 18 11 ≤ 7) ∧ (-1 ≤ zI σ 18 12 ∧ zI σ 18 12 ≤ 7)
theorem CM.k {σ τ : ZS} {N : Int} (h : CM σ N) (e : ob τ 18 = ob σ 18) : CM τ N := by
  have e1 := ob_I e; have e2 := ob_A e
  unfold CM; simp only [e1, e2]; exact h
def CG (σ : ZS) (N : Int) (τ : ZS) : Prop := CM τ N ∧ kp [18] σ τ
theorem CG.rf {σ : ZS} {N : Int} (h : CM σ N) : CG σ N σ := ⟨h, kp.rf⟩
theorem CG.tr {σ τ υ : ZS} {N : Int} (h : CG σ N τ) (k : CG τ N υ) : CG σ N υ := ⟨k.1, h.2.tr k.2⟩
theorem CG.u0 {σ τ : ZS} {N i v : Int} (h : CG σ N τ) (hv : 0 ≤ v ∧ v ≤ 255) : CG σ N (zsA τ 18 0 i v) := by
  obtain ⟨⟨h0, h1, h2, h3, h4, h5, h6, h7, h8, h9, h10⟩, k⟩ := h
  exact ⟨⟨rng_zu h0 hv, h1, h2, h3, h4, h5, h6, h7, h8, h9, h10⟩, k.ta (by decide)⟩
theorem CG.u1 {σ τ : ZS} {N i v : Int} (h : CG σ N τ) (hv : 0 ≤ v ∧ v ≤ 65535) : CG σ N (zsA τ 18 1 i v) := by
  obtain ⟨⟨h0, h1, h2, h3, h4, h5, h6, h7, h8, h9, h10⟩, k⟩ := h
  exact ⟨⟨h0, rng_zu h1 hv, h2, h3, h4, h5, h6, h7, h8, h9, h10⟩, k.ta (by decide)⟩
theorem CG.u2 {σ τ : ZS} {N i v : Int} (h : CG σ N τ) (hv : 0 ≤ v ∧ v ≤ 300000) : CG σ N (zsA τ 18 2 i v) := by
  obtain ⟨⟨h0, h1, h2, h3, h4, h5, h6, h7, h8, h9, h10⟩, k⟩ := h
  exact ⟨⟨h0, h1, rng_zu h2 hv, h3, h4, h5, h6, h7, h8, h9, h10⟩, k.ta (by decide)⟩
theorem CG.i3 {σ τ : ZS} {N v : Int} (h : CG σ N τ) (hv : 0 ≤ v ∧ v ≤ 100000) : CG σ N (zsI τ 18 3 v) := by
  obtain ⟨⟨h0, h1, h2, h3, h4, h5, h6, h7, h8, h9, h10⟩, k⟩ := h
  exact ⟨⟨h0, h1, h2, hv, h4, h5, h6, h7, h8, h9, h10⟩, k.ti (by decide)⟩
theorem CG.i4 {σ τ : ZS} {N v : Int} (h : CG σ N τ) (hv : 0 ≤ v ∧ v ≤ 1) : CG σ N (zsI τ 18 4 v) := by
  obtain ⟨⟨h0, h1, h2, h3, h4, h5, h6, h7, h8, h9, h10⟩, k⟩ := h
  exact ⟨⟨h0, h1, h2, h3, hv, h5, h6, h7, h8, h9, h10⟩, k.ti (by decide)⟩
theorem CG.i5 {σ τ : ZS} {N v : Int} (h : CG σ N τ) (hv : 0 ≤ v ∧ v ≤ 1) : CG σ N (zsI τ 18 5 v) := by
  obtain ⟨⟨h0, h1, h2, h3, h4, h5, h6, h7, h8, h9, h10⟩, k⟩ := h
  exact ⟨⟨h0, h1, h2, h3, h4, hv, h6, h7, h8, h9, h10⟩, k.ti (by decide)⟩
theorem CG.i6 {σ τ : ZS} {N v : Int} (h : CG σ N τ) (hv : 0 ≤ v ∧ v ≤ 1) : CG σ N (zsI τ 18 6 v) := by
  obtain ⟨⟨h0, h1, h2, h3, h4, h5, h6, h7, h8, h9, h10⟩, k⟩ := h
  exact ⟨⟨h0, h1, h2, h3, h4, h5, hv, h7, h8, h9, h10⟩, k.ti (by decide)⟩
theorem CG.i7 {σ τ : ZS} {N v : Int} (h : CG σ N τ) (hv : 0 ≤ v ∧ v ≤ 1) : CG σ N (zsI τ 18 7 v) := by
  obtain ⟨⟨h0, h1, h2, h3, h4, h5, h6, h7, h8, h9, h10⟩, k⟩ := h
  exact ⟨⟨h0, h1, h2, h3, h4, h5, h6, hv, h8, h9, h10⟩, k.ti (by decide)⟩
theorem CG.i9 {σ τ : ZS} {N v : Int} (h : CG σ N τ) (hv : 0 ≤ v ∧ v ≤ N) : CG σ N (zsI τ 18 9 v) := by
  obtain ⟨⟨h0, h1, h2, h3, h4, h5, h6, h7, h8, h9, h10⟩, k⟩ := h
  exact ⟨⟨h0, h1, h2, h3, h4, h5, h6, h7, hv, h9, h10⟩, k.ti (by decide)⟩
theorem CG.i11 {σ τ : ZS} {N v : Int} (h : CG σ N τ) (hv : 0 ≤ v ∧ v ≤ 7) : CG σ N (zsI τ 18 11 v) := by
  obtain ⟨⟨h0, h1, h2, h3, h4, h5, h6, h7, h8, h9, h10⟩, k⟩ := h
  exact ⟨⟨h0, h1, h2, h3, h4, h5, h6, h7, h8, hv, h10⟩, k.ti (by decide)⟩
theorem CG.i12 {σ τ : ZS} {N v : Int} (h : CG σ N τ) (hv : -1 ≤ v ∧ v ≤ 7) : CG σ N (zsI τ 18 12 v) := by
  obtain ⟨⟨h0, h1, h2, h3, h4, h5, h6, h7, h8, h9, h10⟩, k⟩ := h
  exact ⟨⟨h0, h1, h2, h3, h4, h5, h6, h7, h8, h9, hv⟩, k.ti (by decide)⟩
theorem CG.u10 {σ τ : ZS} {N i v : Int} (h : CG σ N τ) : CG σ N (zsA τ 18 10 i v) := ⟨h.1, h.2.ta (by decide)⟩
theorem CG.i8 {σ τ : ZS} {N v : Int} (h : CG σ N τ) : CG σ N (zsI τ 18 8 v) := ⟨h.1, h.2.ti (by decide)⟩
theorem CG.i13 {σ τ : ZS} {N v : Int} (h : CG σ N τ) : CG σ N (zsI τ 18 13 v) := ⟨h.1, h.2.ti (by decide)⟩
theorem CM.mo {σ : ZS} {N M : Int} (h : CM σ N) (hM : N ≤ M) : CM σ M := by
  obtain ⟨h0, h1, h2, h3, h4, h5, h6, h7, h8, h9, h10⟩ := h
  exact ⟨h0, h1, h2, h3, h4, h5, h6, h7, ⟨h8.1, Int.le_trans h8.2 hM⟩, h9, h10⟩
theorem CG.mo {σ τ : ZS} {N M : Int} (h : CG σ N τ) (hM : N ≤ M) : CG σ M τ := ⟨h.1.mo hM, h.2⟩
theorem CM.c {σ : ZS} {N : Int} (h : CM σ N) (i : Int) : 0 ≤ zA σ 18 0 (i % 4096) ∧ zA σ 18 0 (i % 4096) ≤ 255 := h.1 _ (by omega) (by omega)
theorem CM.g {σ : ZS} {N i : Int} (h : CM σ N) (h0 : 0 ≤ i) (h1 : i < 8) : 0 ≤ zA σ 18 1 i ∧ zA σ 18 1 i ≤ 65535 := h.2.1 i h0 h1
theorem CM.s {σ : ZS} {N i : Int} (h : CM σ N) (h0 : 0 ≤ i) (h1 : i < 4) : 0 ≤ zA σ 18 2 i ∧ zA σ 18 2 i ≤ 300000 := h.2.2.1 i h0 h1
theorem CM.ip {σ : ZS} {N : Int} (h : CM σ N) : 0 ≤ zI σ 18 3 ∧ zI σ 18 3 ≤ 100000 := h.2.2.2.1
theorem CM.kk {σ : ZS} {N : Int} (h : CM σ N) : 0 ≤ zI σ 18 11 ∧ zI σ 18 11 ≤ 7 := h.2.2.2.2.2.2.2.2.2.1
theorem CM.sl {σ : ZS} {N : Int} (h : CM σ N) : -1 ≤ zI σ 18 12 ∧ zI σ 18 12 ≤ 7 := h.2.2.2.2.2.2.2.2.2.2
theorem c_word {σ : ZS} {N a : Int} {Q : Int → ZS → Prop} (h : CM σ N) (hQ : ∀ x : Int, (0 ≤ x ∧ x ≤ 65535) → Q x σ) : wpX4_word a σ Q := by
  have c1 := h.c a
  have c2 := h.c (a + 1)
  exact hQ _ (by omega)
theorem c_putw {σ : ZS} {N a b : Int} {Q : ZS → Prop} (h : CM σ N) (hb : -2147483648 ≤ b ∧ b ≤ 2147483647) (hQ : ∀ τ : ZS, CG σ N τ → Q τ) : wpX4_putWord a b σ Q := ⟨hb, hQ _ (((CG.rf h).u0 (by omega)).u0 (by omega))⟩
theorem c_fetch {σ : ZS} {N : Int} {Q : Int → ZS → Prop} (h : CM σ N) (hQ : ∀ (x : Int) (τ : ZS), CG σ N τ → (0 ≤ x ∧ x ≤ 255) → Q x τ) : wpX4_fetch σ Q := hQ _ _ ((CG.rf h).i3 (by omega)) (h.c _)
theorem c_push {σ : ZS} {N a : Int} {Q : ZS → Prop} (h : CM σ N) (ha : -2147483648 ≤ a ∧ a ≤ 2147483647) (hQ : ∀ τ : ZS, CG σ N τ → Q τ) : wpX4_push a σ Q := by
  unfold wpX4_push
  have g : CG σ N (zsA σ 18 1 4 ((zA σ 18 1 4 - 2) % 65536)) := (CG.rf h).u1 (by omega)
  exact c_putw g.1 ha (fun τ k => hQ τ (g.tr k))
theorem c_pop {σ : ZS} {N : Int} {Q : Int → ZS → Prop} (h : CM σ N) (hQ : ∀ (x : Int) (τ : ZS), CG σ N τ → (0 ≤ x ∧ x ≤ 65535) → Q x τ) : wpX4_pop σ Q := by
  unfold wpX4_pop
  exact c_word h (fun x hx => hQ x _ ((CG.rf h).u1 (by omega)) hx)
theorem c_isArithmetic {σ : ZS} {a : Int} {Q : Int → ZS → Prop} (ha : -2147483648 ≤ a ∧ a ≤ 2147483647) (hQ : ∀ x : Int, (0 ≤ x ∧ x ≤ 1) → Q x σ) : wpX4_isArithmetic a σ Q := by
  unfold wpX4_isArithmetic wpX4_isArithmetic_14 wpX4_isArithmetic_15
  exact ⟨ha, fun _ => ⟨by decide, hQ 0 (by decide)⟩, fun _ => ⟨fun _ => ⟨by decide, hQ 0 (by decide)⟩, fun _ => ⟨by decide, hQ 1 (by decide)⟩⟩⟩
theorem c_fetchWord {σ : ZS} {N : Int} {Q : Int → ZS → Prop} (h : CM σ N) (hQ : ∀ (x : Int) (τ : ZS), CG σ N τ → (0 ≤ x ∧ x ≤ 65535) → Q x τ) : wpX4_fetchWord σ Q := by
  unfold wpX4_fetchWord
  exact c_fetch h (fun x τ g hx => c_fetch g.1 (fun y υ k hy => hQ _ υ (g.tr k) (by omega)))
theorem c_fetchSigned {σ : ZS} {N : Int} {Q : Int → ZS → Prop} (h : CM σ N) (hQ : ∀ (x : Int) (τ : ZS), CG σ N τ → (-128 ≤ x ∧ x ≤ 127) → Q x τ) : wpX4_fetchSigned σ Q := by
  unfold wpX4_fetchSigned
  exact c_fetch h (fun x τ g hx => hQ _ τ g (by omega))
theorem c_registerSum {σ : ZS} {a : Int} {Q : Int → ZS → Prop} (ha : 0 ≤ a ∧ a ≤ 7) (hQ : ∀ x : Int, Q x σ) : wpX4_registerSum a σ Q := by
  unfold wpX4_registerSum wpX4_registerSum_76
  exact ⟨by omega, fun _ => hQ _, fun _ => ⟨fun _ => hQ _, fun _ => ⟨fun _ => ⟨fun _ => ⟨by decide, hQ _⟩, fun _ => ⟨by decide, hQ _⟩⟩, fun _ => hQ _⟩⟩⟩
theorem c_fetchM {σ : ZS} {N : Int} {Q : ZS → Prop} (h : CM σ N) (hQ : ∀ τ : ZS, CG σ N τ → Q τ) : wpX4_fetchM σ Q := by
  have f140 : ∀ (v s : Int) (τ : ZS), CG σ N τ → (0 ≤ s ∧ s ≤ 1) → wpX4_fetchM_140 v s τ Q := by
    intro v s τ g hs
    unfold wpX4_fetchM_140 wpX4_fetchM_159
    exact ⟨by omega, fun _ => ⟨by decide, hQ _ g.i13⟩, fun _ => ⟨by decide, hQ _ g.i13⟩⟩
  have f114 : ∀ (b c v : Int) (τ : ZS), CG σ N τ → (0 ≤ b ∧ b ≤ 7) → (0 ≤ c ∧ c ≤ 1) → wpX4_fetchM_114 b c v τ Q := by
    intro b c v τ g hb hc
    unfold wpX4_fetchM_114 wpX4_fetchM_135 wpX4_fetchM_139
    exact ⟨by omega, fun _ => f140 _ _ τ g (by decide), fun _ => ⟨fun _ => f140 _ _ τ g (by decide), fun _ => ⟨fun _ => f140 _ _ τ g (by decide), fun _ => ⟨by omega, fun _ => f140 _ _ τ g (by decide), fun _ => f140 _ _ τ g (by decide)⟩⟩⟩⟩
  have f88 : ∀ (b c v : Int) (τ : ZS), CG σ N τ → (0 ≤ b ∧ b ≤ 7) → (0 ≤ c ∧ c ≤ 1) → wpX4_fetchM_88 b c v τ Q := by
    intro b c v τ g hb hc
    unfold wpX4_fetchM_88
    exact c_fetchWord g.1 (fun x υ k _ => f114 b c _ υ (g.tr k) hb hc)
  have f76 : ∀ (a b c v : Int) (τ : ZS), CG σ N τ → (0 ≤ a ∧ a ≤ 3) → (0 ≤ b ∧ b ≤ 7) → (0 ≤ c ∧ c ≤ 1) → wpX4_fetchM_76 a b c v τ Q := by
    intro a b c v τ g ha hb hc
    unfold wpX4_fetchM_76
    exact ⟨by omega, fun _ => f88 b c v τ g hb hc, fun _ => ⟨by omega, fun _ => ⟨fun _ => f114 b c v τ g hb hc, fun _ => c_fetchSigned g.1 (fun x υ k _ => f114 b c _ υ (g.tr k) hb hc)⟩, fun _ => f88 b c v τ g hb hc⟩⟩
  have f60 : ∀ (a b s : Int) (τ : ZS), CG σ N τ → (0 ≤ a ∧ a ≤ 3) → (0 ≤ b ∧ b ≤ 7) → (0 ≤ s ∧ s ≤ 1) → wpX4_fetchM_60 a b s τ Q := by
    intro a b s τ g ha hb hs
    unfold wpX4_fetchM_60
    exact ⟨by omega, fun _ => c_registerSum hb (fun x => f76 a b s x τ g ha hb hs), fun _ => f76 a b s 0 τ g ha hb hs⟩
  have f36 : ∀ (a b s : Int) (τ : ZS), CG σ N τ → (0 ≤ a ∧ a ≤ 3) → (0 ≤ b ∧ b ≤ 7) → (-1 ≤ s ∧ s ≤ 7) → wpX4_fetchM_36 a b s τ Q := by
    intro a b s τ g ha hb hs
    unfold wpX4_fetchM_36 wpX4_fetchM_59
    exact ⟨by omega, fun _ => ⟨fun _ => f60 a b 0 _ (g.i12 hs) ha hb (by decide), fun _ => ⟨by omega, fun _ => f60 a b 0 _ (g.i12 hs) ha hb (by decide), fun _ => f60 a b 1 _ (g.i12 hs) ha hb (by decide)⟩⟩, fun _ => hQ _ (g.i12 hs)⟩
  unfold wpX4_fetchM
  exact c_fetch h (fun x τ g hx => ⟨by omega, fun _ => f36 _ _ _ _ (g.i11 (by omega)) (by omega) (by omega) (by decide), fun _ => f36 _ _ _ _ (g.i11 (by omega)) (by omega) (by omega) (by omega)⟩)
theorem c_readM {σ : ZS} {N : Int} {Q : Int → ZS → Prop} (h : CM σ N) (hQ : ∀ x : Int, (0 ≤ x ∧ x ≤ 65535) → Q x σ) : wpX4_readM σ Q := by
  have s := h.sl
  unfold wpX4_readM wpX4_readM_27
  exact ⟨by omega, fun _ => c_word h hQ, fun _ => ⟨by omega, hQ _ (h.g (by omega) (by omega))⟩⟩
theorem c_judge {σ : ZS} {N a : Int} {Q : ZS → Prop} (h : CM σ N) (ha : 0 ≤ a ∧ a ≤ 65535) (hQ : ∀ τ : ZS, CG σ N τ → Q τ) : wpX4_judge a σ Q := by
  unfold wpX4_judge wpX4_judge_10
  exact ⟨by omega, fun _ => ⟨by omega, hQ _ (((CG.rf h).i5 (by decide)).i6 (by omega))⟩, fun _ => ⟨by omega, hQ _ (((CG.rf h).i5 (by decide)).i6 (by omega))⟩⟩
theorem c_alu {σ : ZS} {N n a b : Int} {Q : Int → ZS → Prop} (h : CM σ N) (hn : -2147483648 ≤ n ∧ n ≤ 2147483647) (ha : 0 ≤ a ∧ a ≤ 65535) (hb : 0 ≤ b ∧ b ≤ 65535) (hQ : ∀ (x : Int) (τ : ZS), CG σ N τ → (0 ≤ x ∧ x ≤ 65535) → Q x τ) : wpX4_arithmetic n a b σ Q := by
  have f81 : ∀ v : Int, (-2147483648 ≤ v ∧ v ≤ 2147483647) → wpX4_arithmetic_81 v σ Q := by
    intro v hv
    unfold wpX4_arithmetic_81
    have g : CG σ N (zsI σ 18 4 (v / 65536 % 2)) := (CG.rf h).i4 (by omega)
    exact ⟨hv, c_judge g.1 (by omega) (fun τ k => hQ _ τ (g.tr k) (by omega))⟩
  unfold wpX4_arithmetic wpX4_arithmetic_76
  exact ⟨hn, fun _ => f81 _ (by omega), fun _ => ⟨fun _ => f81 _ (zor_bd _ _), fun _ => ⟨fun _ => f81 _ (by omega), fun _ => ⟨fun _ => f81 _ (by omega), fun _ => ⟨fun _ => f81 _ (zand_bd _ _), fun _ => ⟨fun _ => f81 _ (by omega), fun _ => ⟨fun _ => f81 _ (zxor_bd _ _), fun _ => f81 _ (by omega)⟩⟩⟩⟩⟩⟩⟩
theorem c_writeM {σ : ZS} {N a : Int} {Q : ZS → Prop} (h : CM σ N) (ha : -2147483648 ≤ a ∧ a ≤ 2147483647) (hQ : ∀ τ : ZS, CG σ N τ → Q τ) : wpX4_writeM a σ Q := by
  have s := h.sl
  unfold wpX4_writeM wpX4_writeM_32
  exact ⟨by omega, fun _ => c_putw h ha hQ, fun _ => ⟨by omega, hQ _ ((CG.rf h).u1 (by omega))⟩⟩
theorem c_onM {σ : ZS} {N n b : Int} {Q : ZS → Prop} (h : CM σ N) (hn : -2147483648 ≤ n ∧ n ≤ 2147483647) (hb : 0 ≤ b ∧ b ≤ 65535) (hQ : ∀ τ : ZS, CG σ N τ → Q τ) : wpX4_arithmeticOnM n b σ Q := by
  unfold wpX4_arithmeticOnM wpX4_arithmeticOnM_22
  exact c_readM h (fun x hx => c_alu h hn hx hb (fun y τ g hy => ⟨hn, fun _ => hQ τ g, fun _ => c_writeM g.1 (by omega) (fun υ k => hQ υ (g.tr k))⟩))
theorem c_executeLow {σ : ZS} {N a b : Int} {Q : Int → ZS → Prop} (h : CM σ N) (ha : 0 ≤ a ∧ a ≤ 7) (hb : 0 ≤ b ∧ b ≤ 7) (hQ : ∀ (x : Int) (τ : ZS), CG σ N τ → (0 ≤ x ∧ x ≤ 3) → Q x τ) : wpX4_executeLow a b σ Q := by
  have f61 : wpX4_executeLow_61 a b σ Q := by
    unfold wpX4_executeLow_61 wpX4_executeLow_131 wpX4_executeLow_68
    refine c_isArithmetic (by omega) (fun x hx => ⟨by omega, fun _ => c_fetchM h (fun τ g => ?_), fun _ => hQ 2 σ (CG.rf h) (by decide)⟩)
    have k := g.1.kk
    have r := g.1.g k.1 (by omega)
    exact ⟨by omega, fun _ => ⟨by omega, c_readM g.1 (fun y hy => c_alu g.1 (by omega) r hy (fun z υ g2 hz => ⟨by omega, fun _ => hQ 3 υ (g.tr g2) (by decide), fun _ => ⟨by have := g2.1.kk; omega, hQ 3 _ ((g.tr g2).u1 hz) (by decide)⟩⟩))⟩, fun _ => ⟨by omega, c_onM g.1 (by omega) r (fun υ g2 => hQ 3 υ (g.tr g2) (by decide))⟩⟩
  have f51 : wpX4_executeLow_51 a b σ Q := by
    unfold wpX4_executeLow_51 wpX4_executeLow_68
    exact ⟨by omega, fun _ => f61, fun _ => ⟨fun _ => hQ 2 σ (CG.rf h) (by decide), fun _ => f61⟩⟩
  have f23 : wpX4_executeLow_23 a b σ Q := by
    unfold wpX4_executeLow_23
    exact ⟨by omega, fun _ => f51, fun _ => ⟨by omega, fun _ => f51, fun _ => ⟨fun _ => f51, fun _ => c_pop h (fun x τ g hx => ⟨by omega, hQ 3 _ (g.u2 (by omega)) (by decide)⟩)⟩⟩⟩
  unfold wpX4_executeLow
  refine ⟨by omega, fun _ => f23, fun _ => ⟨by omega, fun _ => f23, fun _ => ⟨by omega, ?_⟩⟩⟩
  have s := h.s ha.1 (show a < 4 by omega)
  exact c_push h (by omega) (fun τ g => hQ 3 τ g (by decide))
theorem c_executeRegister {σ : ZS} {N a b : Int} {Q : Int → ZS → Prop} (h : CM σ N) (ha : 0 ≤ a ∧ a ≤ 100) (hb : 0 ≤ b ∧ b ≤ 7) (hQ : ∀ (x : Int) (τ : ZS), CG σ N τ → (0 ≤ x ∧ x ≤ 3) → Q x τ) : wpX4_executeRegister a b σ Q := by
  have st : ∀ v : Int, (0 ≤ v ∧ v ≤ 65535) → wpX4_judge (zA (zsA σ 18 1 b v) 18 1 b) (zsA σ 18 1 b v) (fun (σ6 : ZS) => Q 3 σ6) := by
    intro v hv
    have g : CG σ N (zsA σ 18 1 b v) := (CG.rf h).u1 hv
    exact c_judge g.1 (g.1.g hb.1 (by omega)) (fun τ k => hQ 3 τ (g.tr k) (by decide))
  have r := h.g hb.1 (show b < 8 by omega)
  unfold wpX4_executeRegister wpX4_executeRegister_111
  exact ⟨by omega, fun _ => ⟨by omega, st _ (by omega)⟩, fun _ => ⟨fun _ => ⟨by omega, st _ (by omega)⟩, fun _ => ⟨fun _ => ⟨by omega, c_push h (by omega) (fun τ g => hQ 3 τ g (by decide))⟩, fun _ => c_pop h (fun x τ g hx => ⟨by omega, hQ 3 _ (g.u1 hx) (by decide)⟩)⟩⟩⟩
theorem c_branch {σ : ZS} {N a : Int} {Q : Int → ZS → Prop} (h : CM σ N) (ha : 0 ≤ a ∧ a ≤ 255) (hQ : ∀ (x : Int) (τ : ZS), CG σ N τ → (0 ≤ x ∧ x ≤ 3) → Q x τ) : wpX4_branch a σ Q := by
  have f58 : ∀ v : Int, (0 ≤ v ∧ v ≤ 1) → wpX4_branch_58 a v σ Q := by
    intro v hv
    unfold wpX4_branch_58 wpX4_branch_75 wpX4_jump
    exact c_fetchSigned h (fun x τ g hx => ⟨by omega, fun _ => hQ 3 τ g (by decide), fun _ => hQ 3 _ (g.i3 (by omega)) (by decide)⟩)
  obtain ⟨h0, h1, h2, h3, h4, h5, h6, hr⟩ := h
  unfold wpX4_branch wpX4_branch_56
  exact ⟨by omega, fun _ => f58 _ h4, fun _ => ⟨fun _ => f58 _ h5, fun _ => ⟨fun _ => hQ 2 σ (CG.rf ⟨h0, h1, h2, h3, h4, h5, h6, hr⟩) (by decide), fun _ => ⟨fun _ => f58 _ h6, fun _ => hQ 2 σ (CG.rf ⟨h0, h1, h2, h3, h4, h5, h6, hr⟩) (by decide)⟩⟩⟩⟩
theorem c_shift {σ : ZS} {N : Int} {Q : Int → ZS → Prop} (h : CM σ N) (hQ : ∀ (x : Int) (τ : ZS), CG σ N τ → (0 ≤ x ∧ x ≤ 3) → Q x τ) : wpX4_shift σ Q := by
  have f55 : ∀ (v : Int) (τ : ZS), (0 ≤ v ∧ v ≤ 65535) → CG σ N τ → wpX4_shift_55 v τ Q := by
    intro v τ hv g
    unfold wpX4_shift_55
    exact c_judge g.1 hv (fun υ k => c_writeM k.1 (by omega) (fun ω k2 => hQ 3 ω ((g.tr k).tr k2) (by decide)))
  have k := h.kk
  unfold wpX4_shift
  exact c_readM h (fun x hx => ⟨by omega, fun _ => ⟨fun _ => hQ 2 σ (CG.rf h) (by decide), fun _ => ⟨by omega, f55 _ _ (by omega) ((CG.rf h).i4 (by omega))⟩⟩, fun _ => ⟨by omega, f55 _ _ (by omega) ((CG.rf h).i4 (by omega))⟩⟩)
theorem c_divide {σ : ZS} {N a : Int} {Q : Int → ZS → Prop} (h : CM σ N) (ha : 0 ≤ a ∧ a ≤ 65535) (hQ : ∀ (x : Int) (τ : ZS), CG σ N τ → (0 ≤ x ∧ x ≤ 3) → Q x τ) : wpX4_divide a σ Q := by
  have r2 := h.g (i := 2) (by decide) (by decide)
  have r0 := h.g (i := 0) (by decide) (by decide)
  unfold wpX4_divide wpX4_divide_35
  refine ⟨by omega, by omega, by omega, fun _ => hQ 1 σ (CG.rf h) (by decide), fun n0 => ?_⟩
  have d0 : 0 ≤ (65536 * zA σ 18 1 2 + zA σ 18 1 0) / a := Int.ediv_nonneg (by omega) (by omega)
  have d1 : (65536 * zA σ 18 1 2 + zA σ 18 1 0) / a ≤ 65536 * zA σ 18 1 2 + zA σ 18 1 0 := Int.ediv_le_self _ (by omega)
  have m0 : 0 ≤ (65536 * zA σ 18 1 2 + zA σ 18 1 0) % a := Int.emod_nonneg _ n0
  have m1 : (65536 * zA σ 18 1 2 + zA σ 18 1 0) % a < a := Int.emod_lt_of_pos _ (by omega)
  exact ⟨by omega, by omega, by omega, fun q => hQ 3 _ (((CG.rf h).u1 ⟨d0, q⟩).u1 ⟨m0, by omega⟩) (by decide), fun _ => hQ 1 σ (CG.rf h) (by decide)⟩
theorem c_msingle {σ : ZS} {N : Int} {Q : Int → ZS → Prop} (h : CM σ N) (hQ : ∀ (x : Int) (τ : ZS), CG σ N τ → (0 ≤ x ∧ x ≤ 3) → Q x τ) : wpX4_single σ Q := by
  have k := h.kk
  have r0 := h.g (i := 0) (by decide) (by decide)
  unfold wpX4_single wpX4_single_106 wpX4_single_120
  refine ⟨by omega, fun _ => c_readM h (fun x hx => c_alu h (by decide) (by decide) hx (fun y τ g hy => c_writeM g.1 (by omega) (fun υ k2 => hQ 3 υ (g.tr k2) (by decide)))), fun _ => ⟨fun _ => ⟨by omega, c_readM h (fun x hx => ?_)⟩, fun _ => ⟨fun _ => hQ 2 σ (CG.rf h) (by decide), fun _ => ⟨fun _ => c_readM h (fun x hx => c_divide h hx hQ), fun _ => hQ 2 σ (CG.rf h) (by decide)⟩⟩⟩⟩
  have g : CG σ N (zsA (zsA σ 18 1 0 (zA σ 18 1 0 * x % 65536)) 18 1 2 (zlshr (zA σ 18 1 0 * x) 16 % 65536)) := ((CG.rf h).u1 (by omega)).u1 (by omega)
  have r2 := g.1.g (i := 2) (by decide) (by decide)
  exact ⟨by omega, by omega, fun _ => hQ 3 _ (g.i4 (by decide)) (by decide), fun _ => hQ 3 _ (g.i4 (by decide)) (by decide)⟩
theorem c_executeM {σ : ZS} {N a : Int} {Q : Int → ZS → Prop} (h : CM σ N) (ha : 0 ≤ a ∧ a ≤ 255) (hQ : ∀ (x : Int) (τ : ZS), CG σ N τ → (0 ≤ x ∧ x ≤ 3) → Q x τ) : wpX4_executeM a σ Q := by
  have k := h.kk
  have rk := h.g k.1 (show zI σ 18 11 < 8 by omega)
  have c2 : Q 2 σ := hQ 2 σ (CG.rf h) (by decide)
  unfold wpX4_executeM wpX4_executeM_165
  refine ⟨by omega, fun _ => c_isArithmetic (by omega) (fun x hx => ⟨by omega, fun _ => c_fetchWord h (fun y τ g hy => c_onM g.1 (by omega) hy (fun υ k2 => hQ 3 υ (g.tr k2) (by decide))), fun _ => c2⟩), fun _ => ⟨fun _ => ⟨by omega, c_writeM h (by omega) (fun τ g => hQ 3 τ g (by decide))⟩, fun _ => ⟨fun _ => c_readM h (fun x hx => ⟨by omega, hQ 3 _ ((CG.rf h).u1 hx) (by decide)⟩), fun _ => ⟨fun _ => ⟨by omega, fun q => ⟨by omega, ?_⟩, fun _ => c2⟩, fun _ => ⟨fun _ => ⟨by omega, fun _ => c2, fun q => ⟨fun _ => c_readM h (fun x hx => ⟨by omega, hQ 3 _ ((CG.rf h).u2 (by omega)) (by decide)⟩), fun _ => c2⟩⟩, fun _ => ⟨fun _ => ⟨by omega, fun _ => c_fetchWord h (fun y τ g hy => c_writeM g.1 (by omega) (fun υ k2 => hQ 3 υ (g.tr k2) (by decide))), fun _ => c2⟩, fun _ => ⟨fun _ => c_shift h hQ, fun _ => c_msingle h hQ⟩⟩⟩⟩⟩⟩⟩
  have s := h.s k.1 (show zI σ 18 11 < 4 by omega)
  exact c_writeM h (by omega) (fun τ g => hQ 3 τ g (by decide))
theorem c_executeFlow {σ : ZS} {N a : Int} {Q : Int → ZS → Prop} (h : CM σ N) (hN : 0 ≤ N ∧ N ≤ 1000000) (ha : 0 ≤ a ∧ a ≤ 255) (hQ : ∀ (x : Int) (τ : ZS), CG σ (N + 1) τ → (0 ≤ x ∧ x ≤ 3) → Q x τ) : wpX4_executeFlow a σ Q := by
  have q3 : ∀ τ : ZS, CG σ N τ → Q 3 τ := fun τ g => hQ 3 τ (g.mo (by omega)) (by decide)
  have i9 : ∀ τ : ZS, CM τ N → 0 ≤ zI τ 18 9 ∧ zI τ 18 9 ≤ N := fun τ g => g.2.2.2.2.2.2.2.2.1
  unfold wpX4_executeFlow wpX4_jump wpX4_callFar wpX4_loop wpX4_loop_31 wpX4_tellInt wpX4_tellInt_29
  refine ⟨by omega, fun _ => c_fetchWord h (fun x τ g hx => c_fetchWord g.1 (fun y υ k hy => ?_)), fun _ => ⟨fun _ => c_pop h (fun x τ g hx => q3 _ (g.i3 (by omega))), fun _ => ⟨fun _ => c_pop h (fun x τ g hx => ?_), fun _ => ⟨fun _ => c_fetch h (fun x τ g hx => ?_), fun _ => ⟨fun _ => c_fetchSigned h (fun x τ g hx => ?_), fun _ => ⟨fun _ => c_fetchWord h (fun x τ g hx => ?_), fun _ => ⟨fun _ => c_fetchWord h (fun x τ g hx => q3 _ (g.i3 (by omega))), fun _ => ⟨fun _ => c_fetchSigned h (fun x τ g hx => q3 _ (g.i3 (by omega))), fun _ => ⟨fun _ => hQ 0 σ ((CG.rf h).mo (by omega)) (by decide), fun _ => hQ 2 σ ((CG.rf h).mo (by omega)) (by decide)⟩⟩⟩⟩⟩⟩⟩⟩⟩
  · have gk := g.tr k
    have s := gk.1.s (i := 1) (by decide) (by decide)
    refine c_push gk.1 (by omega) (fun ω k2 => ?_)
    have i := k2.1.ip
    exact c_push k2.1 (by omega) (fun ψ k3 => q3 _ ((((gk.tr k2).tr k3).i3 (by omega)).u2 (by omega)))
  · have g3 : CG σ N (zsI τ 18 3 x) := g.i3 (by omega)
    exact c_pop g3.1 (fun y υ k hy => q3 _ ((g3.tr k).u2 (by omega)))
  · have j := i9 τ g.1
    exact ⟨by omega, fun _ => hQ 3 _ ((g.mo (by omega)).i9 (by omega)) (by decide), fun _ => ⟨by omega, hQ 3 _ ((g.u10.mo (by omega)).i9 (show 0 ≤ zI τ 18 9 + 1 ∧ zI τ 18 9 + 1 ≤ N + 1 by omega)) (by decide)⟩⟩
  · have g1 : CG σ N (zsA τ 18 1 1 ((zA τ 18 1 1 - 1) % 65536)) := g.u1 (by omega)
    have r := g1.1.g (i := 1) (by decide) (by decide)
    exact ⟨by omega, fun _ => q3 _ g1, fun _ => q3 _ (g1.i3 (by omega))⟩
  · have i := g.1.ip
    exact c_push g.1 (by omega) (fun υ k => q3 _ ((g.tr k).i3 (by omega)))
theorem c_execute {σ : ZS} {N a : Int} {Q : Int → ZS → Prop} (h : CM σ N) (hN : 0 ≤ N ∧ N ≤ 1000000) (ha : 0 ≤ a ∧ a ≤ 255) (hQ : ∀ (x : Int) (τ : ZS), CG σ (N + 1) τ → (0 ≤ x ∧ x ≤ 3) → Q x τ) : wpX4_execute a σ Q := by
  have q : ∀ (x : Int) (τ : ZS), CG σ N τ → (0 ≤ x ∧ x ≤ 3) → Q x τ := fun x τ g hx => hQ x τ (g.mo (by omega)) hx
  have f160 : wpX4_execute_160 a σ Q := by
    unfold wpX4_execute_160
    exact c_fetchM h (fun τ g => c_executeM g.1 ha (fun x υ k hx => q x υ (g.tr k) hx))
  have f84 : wpX4_execute_84 a σ Q := by
    unfold wpX4_execute_84
    exact ⟨by omega, fun _ => f160, fun _ => ⟨fun _ => f160, fun _ => ⟨fun _ => f160, fun _ => ⟨fun _ => f160, fun _ => ⟨fun _ => f160, fun _ => ⟨fun _ => f160, fun _ => ⟨fun _ => f160, fun _ => ⟨fun _ => f160, fun _ => c_executeFlow h hN ha hQ⟩⟩⟩⟩⟩⟩⟩⟩
  have f54 : wpX4_execute_54 a σ Q := by
    unfold wpX4_execute_54
    exact ⟨by omega, fun _ => f84, fun _ => ⟨fun _ => f84, fun _ => c_fetchWord h (fun x τ g hx => ⟨by omega, q 3 _ (g.u1 hx) (by decide)⟩)⟩⟩
  unfold wpX4_execute
  exact ⟨by omega, fun _ => ⟨fun _ => ⟨fun _ => f54, fun _ => ⟨fun _ => f54, fun _ => c_branch h ha q⟩⟩, fun _ => c_executeRegister h (by omega) (by omega) q⟩, fun _ => c_executeLow h (by omega) (by omega) q⟩
theorem c_go {σ : ZS} {N f : Int} {Q : Int → ZS → Prop} (h : CM σ N) (hN : 0 ≤ N ∧ N ≤ 100000) (hf : 1 ≤ f ∧ f ≤ 400) (hQ : ∀ (x : Int) (τ : ZS), CG σ (N + 400) τ → (0 ≤ x ∧ x ≤ 3) → Q x τ) : wpX4_go f σ Q := by
  unfold wpX4_go wpX4_go_2
  refine lfp1_ind (fun v _ => (400 - v).toNat) (fun v τ => CG σ (N + v) τ ∧ (0 ≤ v ∧ v ≤ f)) (fun K v τ hI ih => ?_) ⟨(CG.rf h).mo (by omega), by omega⟩
  obtain ⟨g, hv⟩ := hI
  unfold wpbX4_go_2 wpX4_go_34 wpX4_go_52
  refine ⟨by omega, by omega, fun _ => hQ 3 τ (g.mo (by omega)) (by decide), fun q => c_fetch g.1 (fun x υ k hx => c_execute k.1 (by omega) hx (fun y ω k2 hy => ?_))⟩
  have gw : CG σ (N + v + 1) ω := ⟨k2.1, (g.2.tr k.2).tr k2.2⟩
  have ip := g.1.ip
  have st : ∀ ψ : ZS, CG σ (N + v + 1) ψ → (-2147483648 ≤ y ∧ y ≤ 2147483647) ∧ (y = 3 → K (v + 1) ψ) ∧ (¬ y = 3 → Q y (zsI ψ 18 7 1)) := fun ψ gp => ⟨by omega, fun _ => ih _ _ ⟨gp.mo (by omega), by omega⟩ (by omega), fun _ => hQ y _ ((gp.mo (by omega)).i7 (by decide)) hy⟩
  exact ⟨by omega, fun _ => st _ (gw.i3 ip), fun _ => ⟨fun _ => st _ gw.i8, fun _ => st _ (gw.i3 ip)⟩⟩
theorem c_start {σ : ZS} {N p : Int} {Q : ZS → Prop} (h : CM σ N) (hN : 0 ≤ N) (hi : IMc σ) (hp : 0 ≤ p ∧ p ≤ 255) (hQ : ∀ τ : ZS, CG σ N τ → Q τ) : wpX4_start p σ Q := by
  unfold wpX4_start
  refine c_fill18_0 (fun k hk => ?_)
  have g0 : CG σ N (zsF σ 18 0 k) := by
    obtain ⟨h0, hr⟩ := h
    exact ⟨⟨fun i i0 i1 => by show 0 ≤ k i ∧ k i ≤ 255; rw [hk i i0 i1]; decide, hr⟩, kp.f (by decide)⟩
  have im : ∀ τ : ZS, CG σ N τ → IMc τ := fun τ g => hi.k (g.2 17 (by decide))
  have f54 : ∀ τ : ZS, CG σ N τ → wpX4_start_54 p (16 * p) 0 τ Q := by
    intro τ g
    unfold wpX4_start_54
    refine lfp1_ind (fun v _ => (600 - v).toNat) (fun v υ => CG σ N υ ∧ (0 ≤ v ∧ v ≤ 600)) (fun K v υ hI ih => ?_) ⟨g, by decide⟩
    obtain ⟨gu, hv⟩ := hI
    have iu := im υ gu
    have i3 := iu.2.2.2.1
    unfold wpbX4_start_54
    refine ⟨by omega, by omega, fun _ => c_fill18_1 (fun k1 hk1 => c_fill18_2 (fun k2 hk2 => hQ _ ?_)), fun q => ⟨by omega, c_word gu.1 (fun x hx => c_putw gu.1 (by omega) (fun ω k => ih _ _ ⟨gu.tr k, by omega⟩ (by omega)))⟩⟩
    have g1 : CG σ N (zsF (zsF υ 18 1 k1) 18 2 k2) := by
      obtain ⟨⟨h0, h1, h2, hr⟩, kk⟩ := gu
      exact ⟨⟨h0, fun i i0 i1 => by show 0 ≤ k1 i ∧ k1 i ≤ 65535; rw [hk1 i i0 i1]; decide, fun i i0 i1 => by show 0 ≤ k2 i ∧ k2 i ≤ 300000; rw [hk2 i i0 i1]; omega, hr⟩, (kk.tf (by decide)).tf (by decide)⟩
    have i5 := iu.2.2.2.2.2.1
    have i6 := iu.2.2.2.2.2.2
    exact (((((((g1.u2 (show 0 ≤ p + zI υ 17 5 ∧ p + zI υ 17 5 ≤ 300000 by omega)).i3 i6).i4 (by decide)).i5 (by decide)).i6 (by decide)).i7 (by decide)).i8).i9 (by omega)
  unfold wpX4_start_16
  refine lfp1_ind (fun v _ => (1200 - v).toNat) (fun v υ => CG σ N υ ∧ (0 ≤ v ∧ v ≤ 1200)) (fun K v υ hI ih => ?_) ⟨g0, by decide⟩
  obtain ⟨gu, hv⟩ := hI
  have iu := im υ gu
  have i1 := iu.2.1
  unfold wpbX4_start_16
  exact ⟨by omega, by omega, fun _ => f54 υ gu, fun q => ⟨by omega, ih _ _ ⟨gu.u0 (iu.2.2.1 v hv.1 (by omega)), by omega⟩ (by omega)⟩⟩
