/-! P: the reference's reads -/
theorem s_code {σ : ZS} {a b c : Int} {Q : Int → ZS → Prop} (hA : MA σ) (ha : -2147483648 ≤ a ∧ a ≤ 2147483647) (hb : -2147483648 ≤ b ∧ b ≤ 2147483647) (hc : -2147483648 ≤ c ∧ c ≤ 2147483647) (hQ : ∀ (x : Int) (τ : ZS), fr [0] [] σ τ → (0 ≤ x ∧ x ≤ 255) → Q x τ) : wpX11_code a b c σ Q := by
  have bad : wpX11_code_37 (zsI σ 0 0 0) Q := hQ 0 _ ((fr.rf.ti (by decide)).ti (by decide)) (by decide)
  unfold wpX11_code
  refine ⟨ha, fun _ => bad, fun _ => ⟨fun _ => bad, fun _ => ?_⟩⟩
  have h43 := hA.1.2.2.2.2 a (by omega) (by omega)
  have hM := hA.2 a (by omega) (by omega)
  have h44 := hM.1.1
  refine ⟨by omega, by omega, fun _ => bad, fun _ => ⟨hb, fun _ => bad, fun _ => ⟨by omega, fun l => ⟨hc, fun _ => bad, fun _ => ?_⟩, fun _ => bad⟩⟩⟩
  have hs := hM.2.1 b (by omega) l
  refine ⟨by omega, by omega, fun l2 => ⟨by omega, hQ _ _ (fr.rf.ti (by decide)) ?_⟩, fun _ => bad⟩
  exact hA.1.2.2.2.1 _ (by omega) (by omega)
theorem s_fixup {σ : ZS} {a b c : Int} {Q : Int → ZS → Prop} (hA : MA σ) (ha : -2147483648 ≤ a ∧ a ≤ 2147483647) (hb : -2147483648 ≤ b ∧ b ≤ 2147483647) (hc : -2147483648 ≤ c ∧ c ≤ 2147483647) (hQ : ∀ (x : Int) (τ : ZS), fr [0] [] σ τ → (-1 ≤ x ∧ x ≤ 400) → Q x τ) : wpX11_fixup a b c σ Q := by
  have bad : ∀ r : Int, wpX11_raise r (zsI σ 0 0 0) (fun (x9 : Int) (σ10 : ZS) => Q x9 σ10) := fun r => hQ 0 _ ((fr.rf.ti (by decide)).ti (by decide)) (by decide)
  unfold wpX11_fixup
  refine ⟨hc, fun _ => bad 1, fun _ => ⟨fun _ => ⟨ha, fun _ => bad 2, fun _ => ⟨fun _ => bad 2, fun _ => ?_⟩⟩, fun _ => bad 1⟩⟩
  have h43 := hA.1.2.2.2.2 a (by omega) (by omega)
  have hM := hA.2 a (by omega) (by omega)
  have h44 := hM.1.1
  have h50 := hM.1.2.1
  refine ⟨by omega, by omega, fun _ => bad 2, fun _ => ⟨hb, fun _ => bad 2, fun _ => ⟨by omega, fun l => ?_, fun _ => bad 2⟩⟩⟩
  obtain ⟨f1, f2, f3, f4, f5⟩ := hM.2.2.1 b (by omega) l
  have hs := hM.2.1 _ f2.1 f2.2
  unfold wpX11_fixup_118
  have ok : ∀ x : Int, (-1 ≤ x ∧ x ≤ 400) → Q x (zsI σ 0 0 0) := fun x hx => hQ x _ (fr.rf.ti (by decide)) hx
  exact ⟨fun _ => ⟨fun _ => ⟨fun _ => ⟨by omega, ok _ (by omega)⟩, fun _ => ⟨by omega, ok _ (by omega)⟩⟩, fun _ => ⟨by omega, ok _ (by omega)⟩⟩, fun _ => ⟨by omega, ok _ (by omega)⟩⟩
theorem s_image {σ : ZS} {a : Int} {Q : Int → ZS → Prop} (hI : IG σ) (ha : -2147483648 ≤ a ∧ a ≤ 2147483647) (hQ : ∀ (x : Int) (τ : ZS), fr [0] [] σ τ → (0 ≤ x ∧ x ≤ 255) → Q x τ) : wpX11_image a σ Q := by
  have bad : wpX11_image_17 (zsI σ 0 0 0) Q := hQ 0 _ ((fr.rf.ti (by decide)).ti (by decide)) (by decide)
  obtain ⟨hIM, i62, -⟩ := hI
  unfold wpX11_image
  exact ⟨ha, fun _ => bad, fun _ => ⟨by omega, fun _ => ⟨by omega, hQ _ _ (fr.rf.ti (by decide)) (hIM.1 a (by omega) (by omega))⟩, fun _ => bad⟩⟩
theorem s_memoryAt {σ : ZS} {N a : Int} {Q : Int → ZS → Prop} (h : MM σ N) (ha : -2147483648 ≤ a ∧ a ≤ 2147483647) (hQ : ∀ (x : Int) (τ : ZS), fr [0] [] σ τ → (0 ≤ x ∧ x ≤ 255) → Q x τ) : wpX11_memory a σ Q := by
  have bad : wpX11_memory_16 (zsI σ 0 0 0) Q := hQ 0 _ ((fr.rf.ti (by decide)).ti (by decide)) (by decide)
  unfold wpX11_memory
  exact ⟨ha, fun _ => bad, fun _ => ⟨fun _ => ⟨by omega, hQ _ _ (fr.rf.ti (by decide)) (h.1 a (by omega) (by omega))⟩, fun _ => bad⟩⟩
theorem s_register {σ : ZS} {N a : Int} {Q : Int → ZS → Prop} (h : MM σ N) (ha : -2147483648 ≤ a ∧ a ≤ 2147483647) (hQ : ∀ (x : Int) (τ : ZS), fr [0] [] σ τ → (0 ≤ x ∧ x ≤ 65535) → Q x τ) : wpX11_register a σ Q := by
  have bad : wpX11_register_15 (zsI σ 0 0 0) Q := hQ 0 _ ((fr.rf.ti (by decide)).ti (by decide)) (by decide)
  unfold wpX11_register
  exact ⟨ha, fun _ => bad, fun _ => ⟨fun _ => ⟨by omega, hQ _ _ (fr.rf.ti (by decide)) (h.2.1 a (by omega) (by omega))⟩, fun _ => bad⟩⟩
theorem s_trace {σ : ZS} {N a : Int} {Q : Int → ZS → Prop} (h : MM σ N) (hN : N ≤ 1000000) (ha : -2147483648 ≤ a ∧ a ≤ 2147483647) (hQ : ∀ (x : Int) (τ : ZS), fr [0] [] σ τ → (-2147483648 ≤ x ∧ x ≤ 2147483647) → Q x τ) : wpX11_trace a σ Q := by
  have bad : wpX11_trace_23 (zsI σ 0 0 0) Q := hQ 0 _ ((fr.rf.ti (by decide)).ti (by decide)) (by decide)
  obtain ⟨-, -, h79, -, h78, -⟩ := id h
  unfold wpX11_trace
  exact ⟨ha, fun _ => bad, fun _ => ⟨by omega, fun _ => bad, fun _ => ⟨fun _ => ⟨by omega, hQ _ _ (fr.rf.ti (by decide)) (h79 a (by omega) (by omega))⟩, fun _ => bad⟩⟩⟩
theorem s_count {σ : ZS} {N a : Int} {Q : Int → ZS → Prop} (h : MM σ N) (hA : MA σ) (ha : -2147483648 ≤ a ∧ a ≤ 2147483647) (hQ : ∀ (x : Int) (τ : ZS), fr [0] [] σ τ → Q x τ) : wpX11_count a σ Q := by
  have ok : ∀ x : Int, Q x (zsI σ 0 0 0) := fun x => hQ x _ (fr.rf.ti (by decide))
  have bad : wpX11_count_15 (zsI σ 0 0 0) Q := hQ 0 _ ((fr.rf.ti (by decide)).ti (by decide))
  obtain ⟨-, -, -, h76, -⟩ := id h
  unfold wpX11_count wpX11_count_175 wpX11_count_84 wpX11_count_52
  refine ⟨ha, fun _ => bad, fun _ => ⟨fun _ => ⟨fun _ => ⟨fun _ => ⟨fun _ => ok _, fun _ => ⟨fun _ => ok _, fun _ => ⟨fun _ => ok _, fun _ => ⟨fun _ => ok _, fun _ => ⟨fun _ => ok _, fun _ => ⟨fun _ => ok _, fun _ => ⟨fun _ => ok _, fun _ => ⟨by omega, fun _ => ok _, fun _ => ok _⟩⟩⟩⟩⟩⟩⟩⟩, fun _ => ?_⟩, fun _ => ?_⟩, fun _ => bad⟩⟩
  · have h43 := hA.1.2.2.2.2 (a - 8) (by omega) (by omega)
    exact ⟨by omega, by omega, fun _ => ok _, fun _ => ok _⟩
  · have h43 := hA.1.2.2.2.2 (a - 11) (by omega) (by omega)
    exact ⟨by omega, by omega, fun _ => ok _, fun _ => ok _⟩
/-- what stands between calls, the reference's side -/
def RI (σ : ZS) (N : Int) : Prop := PA0 σ ∧ OFs σ ∧ MA σ ∧ IG σ ∧ MM σ N
