/-! P: the reference's machine -/
abbrev MF : List Nat := [76, 77, 78, 80, 81, 82, 83, 84]
abbrev MR : List Nat := [74, 75, 79]
def MM (σ : ZS) (N : Int) : Prop := (∀ i : Int, 0 ≤ i → i < 4096 → 0 ≤ zA σ 0 74 i ∧ zA σ 0 74 i ≤ 255) ∧ (∀ i : Int, 0 ≤ i → i < 16 → 0 ≤ zA σ 0 75 i ∧ zA σ 0 75 i ≤ 65535) ∧ (∀ i : Int, 0 ≤ i → i < 30 → -2147483648 ≤ zA σ 0 79 i ∧ zA σ 0 79 i ≤ 2147483647) ∧ (0 ≤ zI σ 0 76 ∧ zI σ 0 76 ≤ 1) ∧ (0 ≤ zI σ 0 78 ∧ zI σ 0 78 ≤ N) ∧ (0 ≤ zI σ 0 80 ∧ zI σ 0 80 ≤ 65535) ∧ (0 ≤ zI σ 0 81 ∧ zI σ 0 81 ≤ 255) ∧ (0 ≤ zI σ 0 82 ∧ zI σ 0 82 ≤ 7) ∧ (0 ≤ zI σ 0 83 ∧ zI σ 0 83 ≤ 15) ∧ (0 ≤ zI σ 0 84 ∧ zI σ 0 84 ≤ 65535)
theorem MM.u74 {σ : ZS} {N i v : Int} (h : MM σ N) (hv : 0 ≤ v ∧ v ≤ 255) : MM (zsA σ 0 74 i v) N := ⟨rng_zu h.1 hv, h.2⟩
theorem MM.u75 {σ : ZS} {N i v : Int} (h : MM σ N) (hv : 0 ≤ v ∧ v ≤ 65535) : MM (zsA σ 0 75 i v) N := ⟨h.1, rng_zu h.2.1 hv, h.2.2⟩
theorem MM.u79 {σ : ZS} {N i v : Int} (h : MM σ N) (hv : -2147483648 ≤ v ∧ v ≤ 2147483647) : MM (zsA σ 0 79 i v) N := ⟨h.1, h.2.1, rng_zu h.2.2.1 hv, h.2.2.2⟩
theorem MM.i76 {σ : ZS} {N v : Int} (h : MM σ N) (hv : 0 ≤ v ∧ v ≤ 1) : MM (zsI σ 0 76 v) N := ⟨h.1, h.2.1, h.2.2.1, hv, h.2.2.2.2⟩
theorem MM.i77 {σ : ZS} {N v : Int} (h : MM σ N) : MM (zsI σ 0 77 v) N := h
theorem MM.i78 {σ : ZS} {N v : Int} (h : MM σ N) (hv : 0 ≤ v ∧ v ≤ N) : MM (zsI σ 0 78 v) N := ⟨h.1, h.2.1, h.2.2.1, h.2.2.2.1, hv, h.2.2.2.2.2⟩
theorem MM.i80 {σ : ZS} {N v : Int} (h : MM σ N) (hv : 0 ≤ v ∧ v ≤ 65535) : MM (zsI σ 0 80 v) N := ⟨h.1, h.2.1, h.2.2.1, h.2.2.2.1, h.2.2.2.2.1, hv, h.2.2.2.2.2.2⟩
theorem MM.i81 {σ : ZS} {N v : Int} (h : MM σ N) (hv : 0 ≤ v ∧ v ≤ 255) : MM (zsI σ 0 81 v) N := ⟨h.1, h.2.1, h.2.2.1, h.2.2.2.1, h.2.2.2.2.1, h.2.2.2.2.2.1, hv, h.2.2.2.2.2.2.2⟩
theorem MM.i82 {σ : ZS} {N v : Int} (h : MM σ N) (hv : 0 ≤ v ∧ v ≤ 7) : MM (zsI σ 0 82 v) N := ⟨h.1, h.2.1, h.2.2.1, h.2.2.2.1, h.2.2.2.2.1, h.2.2.2.2.2.1, h.2.2.2.2.2.2.1, hv, h.2.2.2.2.2.2.2.2⟩
theorem MM.i83 {σ : ZS} {N v : Int} (h : MM σ N) (hv : 0 ≤ v ∧ v ≤ 15) : MM (zsI σ 0 83 v) N := ⟨h.1, h.2.1, h.2.2.1, h.2.2.2.1, h.2.2.2.2.1, h.2.2.2.2.2.1, h.2.2.2.2.2.2.1, h.2.2.2.2.2.2.2.1, hv, h.2.2.2.2.2.2.2.2.2⟩
theorem MM.i84 {σ : ZS} {N v : Int} (h : MM σ N) (hv : 0 ≤ v ∧ v ≤ 65535) : MM (zsI σ 0 84 v) N := ⟨h.1, h.2.1, h.2.2.1, h.2.2.2.1, h.2.2.2.2.1, h.2.2.2.2.2.1, h.2.2.2.2.2.2.1, h.2.2.2.2.2.2.2.1, h.2.2.2.2.2.2.2.2.1, hv⟩
theorem MM.mo {σ : ZS} {N M : Int} (h : MM σ N) (hN : N ≤ M) : MM σ M := ⟨h.1, h.2.1, h.2.2.1, h.2.2.2.1, by have := h.2.2.2.2.1; omega, h.2.2.2.2.2⟩
def Go (σ : ZS) (N : Int) (τ : ZS) : Prop := MM τ N ∧ fr MF MR σ τ
theorem Go.rf {σ : ZS} {N : Int} (h : MM σ N) : Go σ N σ := ⟨h, fr.rf⟩
theorem Go.tr {σ τ υ : ZS} {N : Int} (h : Go σ N τ) (k : Go τ N υ) : Go σ N υ := ⟨k.1, h.2.tr k.2⟩
theorem Go.a75 {σ τ : ZS} {N i v : Int} (h : Go σ N τ) (hv : 0 ≤ v ∧ v ≤ 65535) : Go σ N (zsA τ 0 75 i v) := ⟨h.1.u75 hv, h.2.ta (by decide)⟩
theorem Go.a74 {σ τ : ZS} {N i v : Int} (h : Go σ N τ) (hv : 0 ≤ v ∧ v ≤ 255) : Go σ N (zsA τ 0 74 i v) := ⟨h.1.u74 hv, h.2.ta (by decide)⟩
theorem Go.j80 {σ τ : ZS} {N v : Int} (h : Go σ N τ) (hv : 0 ≤ v ∧ v ≤ 65535) : Go σ N (zsI τ 0 80 v) := ⟨h.1.i80 hv, h.2.ti (by decide)⟩
theorem MM.r {σ : ZS} {N i : Int} (h : MM σ N) (h0 : 0 ≤ i) (h1 : i < 16) : 0 ≤ zA σ 0 75 i ∧ zA σ 0 75 i ≤ 65535 := h.2.1 i h0 h1
theorem zor_bd (a b : Int) : -2147483648 ≤ zor a b ∧ zor a b ≤ 2147483647 := by
  unfold zor
  have h1 := Int32.le_toInt (Int32.ofInt a ||| Int32.ofInt b)
  have h2 := Int32.toInt_lt (Int32.ofInt a ||| Int32.ofInt b)
  omega
theorem zxor_bd (a b : Int) : -2147483648 ≤ zxor a b ∧ zxor a b ≤ 2147483647 := by
  unfold zxor
  have h1 := Int32.le_toInt (Int32.ofInt a ^^^ Int32.ofInt b)
  have h2 := Int32.toInt_lt (Int32.ofInt a ^^^ Int32.ofInt b)
  omega
theorem m_fetch {σ : ZS} {N : Int} {Q : Int → ZS → Prop} (h : MM σ N) (hQ : ∀ (x : Int) (τ : ZS), Go σ N τ → (0 ≤ x ∧ x ≤ 255) → Q x τ) : wpX11_fetch σ Q := by
  unfold wpX11_fetch wpX11_where
  exact ⟨by omega, hQ _ _ ((Go.rf h).j80 (by omega)) (h.1 _ (by omega) (by omega))⟩
theorem m_fetchTwo {σ : ZS} {N : Int} {Q : Int → ZS → Prop} (h : MM σ N) (hQ : ∀ (x : Int) (τ : ZS), Go σ N τ → (0 ≤ x ∧ x ≤ 65535) → Q x τ) : wpX11_fetchTwo σ Q := by
  unfold wpX11_fetchTwo
  refine m_fetch h (fun x τ g hx => m_fetch g.1 (fun y υ k hy => hQ _ _ (g.tr k) ?_))
  rw [zor_bytes (by omega) (by omega)]; omega
theorem m_fetchSigned {σ : ZS} {N : Int} {Q : Int → ZS → Prop} (h : MM σ N) (hQ : ∀ (x : Int) (τ : ZS), Go σ N τ → (-128 ≤ x ∧ x ≤ 127) → Q x τ) : wpX11_fetchSigned σ Q := by
  unfold wpX11_fetchSigned
  exact m_fetch h (fun x τ g hx => hQ _ _ g (by omega))
theorem m_get {σ : ZS} {N a b : Int} {Q : Int → ZS → Prop} (h : MM σ N) (hQ : ∀ x : Int, (0 ≤ x ∧ x ≤ 65535) → Q x σ) : wpX11_get a b σ Q := by
  unfold wpX11_get wpX11_where
  have h1 := h.1 ((16 * a + b % 65536) % 4096) (by omega) (by omega)
  have h2 := h.1 ((16 * a + (b + 1) % 65536) % 4096) (by omega) (by omega)
  refine ⟨by omega, by omega, hQ _ ?_⟩
  rw [zor_bytes (by omega) (by omega)]; omega
theorem m_store {σ : ZS} {N a b c : Int} {Q : ZS → Prop} (h : MM σ N) (hc : -2147483648 ≤ c ∧ c ≤ 2147483647) (hQ : ∀ τ : ZS, Go σ N τ → Q τ) : wpX11_store a b c σ Q := by
  unfold wpX11_store wpX11_where
  exact ⟨by omega, hc, by omega, hQ _ (((Go.rf h).a74 (by omega)).a74 (by omega))⟩
theorem m_push {σ : ZS} {N c : Int} {Q : ZS → Prop} (h : MM σ N) (hc : -2147483648 ≤ c ∧ c ≤ 2147483647) (hQ : ∀ τ : ZS, Go σ N τ → Q τ) : wpX11_push c σ Q := by
  unfold wpX11_push
  have g : Go σ N (zsA σ 0 75 4 ((zA σ 0 75 4 - 2) % 65536)) := (Go.rf h).a75 (by omega)
  exact m_store g.1 hc (fun τ k => hQ _ (g.tr k))
theorem m_pop {σ : ZS} {N : Int} {Q : Int → ZS → Prop} (h : MM σ N) (hQ : ∀ (x : Int) (τ : ZS), Go σ N τ → (0 ≤ x ∧ x ≤ 65535) → Q x τ) : wpX11_pop σ Q := by
  unfold wpX11_pop
  exact m_get h (fun x hx => hQ _ _ ((Go.rf h).a75 (by omega)) hx)
theorem m_flags {σ : ZS} {N a : Int} {Q : ZS → Prop} (h : MM σ N) (ha : -2147483648 ≤ a ∧ a ≤ 2147483647) (hQ : ∀ τ : ZS, Go σ N τ → Q τ) : wpX11_flags a σ Q := by
  unfold wpX11_flags wpX11_flags_19
  exact ⟨fun _ => ⟨by decide, ha, hQ _ (((Go.rf h).a75 (by decide)).a75 (by omega))⟩, fun _ => ⟨by decide, ha, hQ _ (((Go.rf h).a75 (by decide)).a75 (by omega))⟩⟩
theorem m_condition {σ : ZS} {N a : Int} {Q : Int → ZS → Prop} (h : MM σ N) (ha : -2147483648 ≤ a ∧ a ≤ 2147483647) (hQ : ∀ x : Int, (0 ≤ x ∧ x ≤ 1) → Q x σ) : wpX11_condition a σ Q := by
  have f37 : ∀ s0 : Int, (0 ≤ s0 ∧ s0 ≤ 1) → wpX11_condition_37 a s0 σ Q := by
    intro s0 h0
    unfold wpX11_condition_37 wpX11_condition_57
    exact ⟨fun _ => ⟨by omega, fun _ => ⟨by decide, hQ _ (by decide)⟩, fun _ => ⟨by decide, hQ _ (by decide)⟩⟩, fun _ => ⟨h0, hQ _ h0⟩⟩
  have f28 : ∀ s1 : Int, (0 ≤ s1 ∧ s1 < 16) → wpX11_condition_28 a s1 σ Q := by
    intro s1 h1
    have hr := h.r h1.1 h1.2
    unfold wpX11_condition_28
    exact ⟨h1, by omega, fun _ => f37 0 (by decide), fun _ => f37 1 (by decide)⟩
  unfold wpX11_condition
  exact ⟨ha, fun _ => ⟨fun _ => f28 15 (by decide), fun _ => f28 14 (by decide)⟩, fun _ => f28 13 (by decide)⟩
theorem m_operation {σ : ZS} {a : Int} {Q : Int → ZS → Prop} (ha : -2147483648 ≤ a ∧ a ≤ 2147483647) (hQ : ∀ x : Int, (0 ≤ x ∧ x ≤ 1) → Q x σ) : wpX11_operation a σ Q := by
  unfold wpX11_operation wpX11_operation_20 wpX11_operation_24 wpX11_operation_25
  have y : ((0 : Int) ≤ 1 ∧ (1 : Int) ≤ 1) ∧ Q 1 σ := ⟨by decide, hQ _ (by decide)⟩
  have n : ((0 : Int) ≤ 0 ∧ (0 : Int) ≤ 1) ∧ Q 0 σ := ⟨by decide, hQ _ (by decide)⟩
  exact ⟨ha, fun _ => y, fun _ => ⟨fun _ => y, fun _ => ⟨fun _ => n, fun _ => ⟨fun _ => n, fun _ => y⟩⟩⟩⟩
theorem m_hasForm {σ : ZS} {a : Int} {Q : Int → ZS → Prop} (ha : 0 ≤ a ∧ a ≤ 255) (hQ : ∀ x : Int, (0 ≤ x ∧ x ≤ 1) → Q x σ) : wpX11_hasForm a σ Q := by
  have y : wpX11_hasForm_93 σ Q := ⟨by decide, hQ _ (by decide)⟩
  have n : wpX11_hasForm_98 0 σ Q := ⟨by decide, hQ _ (by decide)⟩
  have n2 : wpX11_hasForm_35 σ Q := ⟨by decide, hQ _ (by decide)⟩
  have f22 : wpX11_hasForm_22 a σ Q := by
    unfold wpX11_hasForm_22
    exact ⟨by omega, m_operation (by omega) (fun x hx => ⟨by omega, fun _ => n2, fun _ => ⟨by decide, hQ _ (by decide)⟩⟩)⟩
  unfold wpX11_hasForm
  exact ⟨by omega, fun _ => ⟨fun _ => y, fun _ => ⟨fun _ => y, fun _ => ⟨fun _ => y, fun _ => ⟨fun _ => y, fun _ => ⟨fun _ => y, fun _ => ⟨fun _ => y, fun _ => ⟨fun _ => y, fun _ => ⟨fun _ => n, fun _ => y⟩⟩⟩⟩⟩⟩⟩⟩, fun _ => ⟨by omega, fun _ => f22, fun _ => ⟨fun _ => n2, fun _ => f22⟩⟩⟩
theorem m_readForm {σ : ZS} {N : Int} {Q : ZS → Prop} (h : MM σ N) (hQ : ∀ τ : ZS, Go σ N τ → Q τ) : wpX11_readForm σ Q := by
  have f80 : ∀ (a b c : Int) (τ : ZS), Go σ N τ → (0 ≤ a ∧ a ≤ 3) → (0 ≤ b ∧ b ≤ 7) → wpX11_readForm_80 a b c τ Q := by
    intro a b c τ g ha hb
    have fin : ∀ (v d : Int), (0 ≤ v ∧ v ≤ 65535) → (0 ≤ d ∧ d ≤ 15) → Q (zsI (zsI τ 0 84 v) 0 83 d) := fun v d hv hd => hQ _ ⟨(g.1.i84 hv).i83 hd, (g.2.ti (by decide)).ti (by decide)⟩
    have f188 : ∀ d : Int, wpX11_readForm_188 a b c d τ Q := by
      intro d
      unfold wpX11_readForm_188 wpX11_readForm_221 wpX11_readForm_226 wpX11_readForm_228
      exact ⟨by omega, fun _ => fin _ _ (by omega) (by decide), fun _ => ⟨fun _ => fin _ _ (by omega) (by decide), fun _ => ⟨fun _ => fin _ _ (by omega) (by decide), fun _ => ⟨by omega, fun _ => fin _ _ (by omega) (by decide), fun _ => fin _ _ (by omega) (by decide)⟩⟩⟩⟩
    have f161 : ∀ d : Int, wpX11_readForm_161 a b c d τ Q := by
      intro d
      unfold wpX11_readForm_161 wpX11_readForm_176
      exact ⟨by omega, fun _ => f188 _, fun _ => ⟨fun _ => f188 _, fun _ => ⟨fun _ => f188 _, fun _ => f188 _⟩⟩⟩
    have f135 : ∀ d : Int, wpX11_readForm_135 a b c d τ Q := by
      intro d
      unfold wpX11_readForm_135 wpX11_readForm_149
      exact ⟨by omega, fun _ => f161 _, fun _ => ⟨fun _ => f161 _, fun _ => ⟨fun _ => f161 _, fun _ => f161 _⟩⟩⟩
    have f107 : ∀ d : Int, wpX11_readForm_107 a b c d τ Q := by
      intro d
      unfold wpX11_readForm_107 wpX11_readForm_127
      exact ⟨by omega, fun _ => f135 _, fun _ => ⟨fun _ => f135 _, fun _ => ⟨fun _ => f135 _, fun _ => ⟨by omega, fun _ => f135 _, fun _ => f135 _⟩⟩⟩⟩
    unfold wpX11_readForm_80 wpX11_readForm_99
    exact ⟨by omega, fun _ => f107 _, fun _ => ⟨fun _ => f107 _, fun _ => ⟨fun _ => f107 _, fun _ => f107 _⟩⟩⟩
  unfold wpX11_readForm
  refine m_fetch h (fun x τ g hx => ?_)
  have g2 : Go σ N (zsI (zsI τ 0 81 x) 0 82 ((x / 8) % 8)) := ⟨(g.1.i81 hx).i82 (by omega), (g.2.ti (by decide)).ti (by decide)⟩
  refine ⟨by omega, fun _ => ⟨fun _ => ⟨fun _ => ?_, fun _ => ?_⟩, fun _ => ⟨fun _ => f80 _ _ _ _ g2 (by omega) (by omega), fun _ => ?_⟩⟩, fun _ => hQ _ g2⟩
  · exact m_fetchTwo g2.1 (fun y υ k hy => f80 _ _ _ _ (g2.tr k) (by omega) (by omega))
  · exact m_fetchSigned g2.1 (fun y υ k hy => f80 _ _ _ _ (g2.tr k) (by omega) (by omega))
  · exact m_fetchTwo g2.1 (fun y υ k hy => f80 _ _ _ _ (g2.tr k) (by omega) (by omega))
theorem m_formGet {σ : ZS} {N : Int} {Q : Int → ZS → Prop} (h : MM σ N) (hQ : ∀ x : Int, (0 ≤ x ∧ x ≤ 65535) → Q x σ) : wpX11_formGet σ Q := by
  obtain ⟨-, -, -, -, -, -, h81, -, h83, -⟩ := id h
  unfold wpX11_formGet wpX11_formGet_43
  exact ⟨by omega, fun _ => ⟨by omega, m_get h hQ⟩, fun _ => hQ _ (h.r (by omega) (by omega))⟩
theorem m_formSet {σ : ZS} {N a : Int} {Q : ZS → Prop} (h : MM σ N) (ha : -2147483648 ≤ a ∧ a ≤ 2147483647) (hQ : ∀ τ : ZS, Go σ N τ → Q τ) : wpX11_formSet a σ Q := by
  obtain ⟨-, -, -, -, -, -, h81, -, h83, -⟩ := id h
  unfold wpX11_formSet wpX11_formSet_49
  exact ⟨by omega, fun _ => ⟨by omega, m_store h ha hQ⟩, fun _ => hQ _ ((Go.rf h).a75 (by omega))⟩
theorem m_shift {σ : ZS} {N : Int} {Q : Int → ZS → Prop} (h : MM σ N) (hQ : ∀ (x : Int) (τ : ZS), Go σ N τ → (0 ≤ x ∧ x ≤ 3) → Q x τ) : wpX11_shift σ Q := by
  obtain ⟨-, -, -, -, -, -, -, h82, -, -⟩ := id h
  have f65 : ∀ a b : Int, (0 ≤ a ∧ a ≤ 200000) → (0 ≤ b ∧ b ≤ 1) → wpX11_shift_65 a b 13 σ Q := by
    intro a b ha hb
    unfold wpX11_shift_65
    have g : Go σ N (zsA σ 0 75 13 b) := (Go.rf h).a75 (by omega)
    exact ⟨by decide, m_flags g.1 (by omega) (fun τ k => m_formSet k.1 (by omega) (fun υ l => hQ 0 _ ((g.tr k).tr l) (by decide)))⟩
  have f40 : ∀ x y : Int, (0 ≤ x ∧ x ≤ 65535) → (0 ≤ y ∧ y ≤ 200000) → wpX11_shift_40 x y σ Q := by
    intro x y hx hy
    unfold wpX11_shift_40
    exact ⟨by omega, fun _ => f65 _ _ hy (by omega), fun _ => ⟨by omega, f65 _ _ hy (by omega)⟩⟩
  have f18 : wpX11_shift_18 σ Q := by
    unfold wpX11_shift_18
    exact m_formGet h (fun x hx => ⟨by omega, fun _ => ⟨by omega, f40 _ _ hx (by omega)⟩, fun _ => f40 _ _ hx (by omega)⟩)
  unfold wpX11_shift
  exact ⟨by omega, fun _ => f18, fun _ => ⟨fun _ => f18, fun _ => hQ 2 _ (Go.rf h) (by decide)⟩⟩
theorem m_reckoned {σ : ZS} {N a b c : Int} {Q : Int → ZS → Prop} (h : MM σ N) (ha : -2147483648 ≤ a ∧ a ≤ 2147483647) (hb : 0 ≤ b ∧ b ≤ 65535) (hc : 0 ≤ c ∧ c ≤ 65535) (hQ : ∀ (x : Int) (τ : ZS), Go σ N τ → (0 ≤ x ∧ x ≤ 65535) → Q x τ) : wpX11_reckoned a b c σ Q := by
  have f81 : ∀ v : Int, (-2147483648 ≤ v ∧ v ≤ 2147483647) → wpX11_reckoned_81 v σ Q := by
    intro v hv
    unfold wpX11_reckoned_81
    have g : Go σ N (zsA σ 0 75 13 ((v / 65536) % 2)) := (Go.rf h).a75 (by omega)
    exact ⟨hv, m_flags g.1 hv (fun τ k => hQ _ _ (g.tr k) (by omega))⟩
  have f76 : wpX11_reckoned_76 b c σ Q := f81 _ (by omega)
  unfold wpX11_reckoned
  exact ⟨ha, fun _ => f81 _ (by omega), fun _ => ⟨fun _ => f81 _ (zor_bd _ _), fun _ => ⟨fun _ => f76, fun _ => ⟨fun _ => f76, fun _ => ⟨fun _ => f81 _ (zand_bd _ _), fun _ => ⟨fun _ => f76, fun _ => ⟨fun _ => f81 _ (zxor_bd _ _), fun _ => f76⟩⟩⟩⟩⟩⟩⟩
theorem m_plain {σ : ZS} {N a : Int} {Q : Int → ZS → Prop} (h : MM σ N) (ha : 0 ≤ a ∧ a ≤ 255) (hQ : ∀ (x : Int) (τ : ZS), Go σ N τ → (0 ≤ x ∧ x ≤ 3) → Q x τ) : wpX11_plain a σ Q := by
  have hr := h.r (i := a % 8) (by omega) (by omega)
  have f52 : ∀ d : Int, wpX11_plain_52 (a % 8) d (zA σ 0 75 (a % 8)) (a % 8) σ Q := by
    intro d
    unfold wpX11_plain_52
    have g : Go σ N (zsA σ 0 75 (a % 8) ((zA σ 0 75 (a % 8) + d) % 65536)) := (Go.rf h).a75 (by omega)
    have hr2 := g.1.r (i := a % 8) (by omega) (by omega)
    exact ⟨by omega, by omega, m_flags g.1 (by omega) (fun τ k => hQ 0 _ (g.tr k) (by decide))⟩
  unfold wpX11_plain wpX11_plain_99
  exact ⟨by omega, fun _ => ⟨fun _ => ⟨fun _ => m_pop h (fun x τ g hx => hQ 0 _ (g.a75 hx) (by decide)), fun _ => m_push h (by omega) (fun τ g => hQ 0 _ g (by decide))⟩, fun _ => ⟨fun _ => f52 _, fun _ => f52 _⟩⟩, fun _ => m_fetchTwo h (fun x τ g hx => hQ 0 _ (g.a75 hx) (by decide))⟩
