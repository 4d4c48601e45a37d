/-! P: jumps, data, labels, segments -/
theorem s_jumpCode {σ : ZS} {c : Int} {Q : Int → ZS → Prop} (hc : 0 ≤ c ∧ c ≤ 100) (hQ : ∀ r : Int, 0 ≤ r → r ≤ 255 → Q r σ) : wpX11_jumpCode c σ Q := by
  unfold wpX11_jumpCode
  exact ⟨by omega, fun _ => hQ _ (by decide) (by decide), fun _ => ⟨fun _ => hQ _ (by decide) (by decide), fun _ => ⟨fun _ => hQ _ (by decide) (by decide), fun _ => ⟨fun _ => hQ _ (by decide) (by decide), fun _ => ⟨fun _ => hQ _ (by decide) (by decide), fun _ => ⟨fun _ => hQ _ (by decide) (by decide), fun _ => hQ _ (by decide) (by decide)⟩⟩⟩⟩⟩⟩
theorem s_jump {σ : ZS} {c p : Int} {Q : Int → ZS → Prop} (hG : GG σ) (hF : Fresh σ) (hs : zI σ 0 33 = 1) (hp : zI σ 0 31 + 2 ≤ 2 * zI σ 0 6) (hc : 0 ≤ c ∧ c ≤ 100) (hpp : 0 ≤ p ∧ p ≤ 480) (hQ : ∀ (r : Int) (τ : ZS), Stm σ r τ → Q r τ) : wpX11_jump c p σ Q := by
  have hL := hG.2.1
  unfold wpX11_jump
  refine s_isName hL (fun t _ => ⟨by decide, fun _ => ?_, fun q => absurd q (by decide)⟩) ⟨by decide, fun q => absurd rfl q, fun _ => s_fault ⟨by decide, hQ 0 _ ⟨GG_34 hG, PR_fault, Or.inl rfl, by show zI σ 0 31 ≤ 2 * zI σ 0 6; omega⟩⟩⟩
  obtain ⟨l1, l2, l3, l4, l5, l6, l7, l8, -⟩ := hL
  refine s_name hG t hF (fun n τ n0 n1 n2 gt pt ft => ?_)
  have e5 := ft.1 5 (by decide); have e6 := ft.1 6 (by decide); have e23 := ft.1 23 (by decide); have e31 := ft.1 31 (by decide)
  have hf := hF t
  have hlt := hG.2.2.1.2.1 (by omega)
  have f44 : ∀ s0 : Int, (s0 = 2 ∨ s0 = 3 ∨ s0 = 4) → wpX11_jump_44 c p n s0 τ Q := by
    intro s0 h0
    unfold wpX11_jump_44
    refine s_use gt (by omega) ⟨n0, n1, n2⟩ (by omega) (by omega) (fun q => by omega) (fun υ gu pu fu e23u hus => ?_)
    refine s_nextG gu (fun ω gw pw fw _ s5 _ _ => ?_)
    have u31 := fu.1 31 (by decide); have u5 := fu.1 5 (by decide); have w31 := fw.1 31 (by decide)
    have pp : PR σ ω := (pt.tr pu).tr pw
    have s33 := pp.seen gw hs
    have fin : ∀ (k : Int) (ψ : ZS), Em k ω ψ → k ≤ 3 → Q 1 ψ := fun k ψ hE hk => hQ 1 ψ ⟨hE.1, pp.tr hE.2.1, Or.inr rfl, by have := hE.2.2.2.2; rw [hE.s6]; omega⟩
    unfold wpX11_jump_126 wpX11_jump_132
    refine ⟨by omega, fun n4 => ⟨fun n2' => ⟨by omega, fun _ => ?_, fun _ => ?_⟩, fun e2 => ?_⟩, fun e4 => ?_⟩
    · exact s_piece gw s33 (by omega) (by decide) (fun _ _ => ⟨n0, n1⟩) (fun q => absurd q (by decide)) (by omega) (by decide) hpp (fun q => absurd q (by decide)) (fun ψ hE => fin 1 ψ hE (by decide))
    · exact s_piece gw s33 (by omega) (by decide) (fun _ _ => ⟨n0, n1⟩) (fun q => absurd q (by decide)) (by omega) (by decide) hpp (fun q => absurd q (by decide)) (fun ψ hE => fin 1 ψ hE (by decide))
    · refine s_jumpCode hc (fun r r0 r1 => ?_)
      exact s_piece gw s33 (by omega) (by decide) (fun _ _ => ⟨n0, n1⟩) (fun q => absurd q (by decide)) (by omega) (by omega) hpp (fun q => absurd q (by decide)) (fun ψ hE => fin 1 ψ hE (by decide))
    · have hu4 := hus (Or.inr e4)
      refine s_octet gw s33 (by omega) (by decide) (fun a hA => ?_)
      have y31 := hA.2.2.2.2; have y6 := hA.s6
      refine s_piece hA.1 (hA.s33 s33) (by omega) (by decide) (fun _ _ => ⟨n0, n1⟩) (fun q => absurd q (by decide)) (by omega) (by decide) (by decide) (fun _ => (pw.tr hA.2.1).hasUse hu4) (fun b hB => ?_)
      have z31 := hB.2.2.2.2; have z6 := hB.s6
      exact s_piece hB.1 (hB.s33 (hA.s33 s33)) (by omega) (by decide) (fun _ _ => ⟨n0, n1⟩) (fun q => absurd q (by decide)) (by omega) (by decide) (by decide) (fun _ => ((pw.tr hA.2.1).tr hB.2.1).hasUse hu4) (fun d hD => fin _ d ((hA.tr hB).tr hD) (by decide))
  unfold wpX11_jump_39
  exact ⟨by omega, fun _ => ⟨fun _ => f44 3 (by decide), fun _ => ⟨fun _ => f44 2 (by decide), fun _ => f44 3 (by decide)⟩⟩, fun _ => f44 4 (by decide)⟩
theorem s_instruction {σ : ZS} {Q : Int → ZS → Prop} (hG : GG σ) (ht : zI σ 0 7 = 1) (hc : 17 < zI σ 0 9) (hs : zI σ 0 33 = 1) (hp : zI σ 0 31 ≤ 2 * zI σ 0 6) (hQ : ∀ (r : Int) (τ : ZS), Stm σ r τ → Q r τ) : wpX11_instruction σ Q := by
  have hL := hG.2.1
  obtain ⟨l1, l2, l3, l4, l5, l6, l7, l8, -⟩ := hL
  have hlt := hG.2.2.1.2.1 (by omega)
  unfold wpX11_instruction
  refine s_nextG hG (fun τ g p f _ s5 _ fs => ?_)
  have e31 := f.1 31 (by decide)
  have s33 := p.seen g hs
  have hLt := g.2.1
  obtain ⟨m1, m2, m3, m4, m5, -⟩ := hLt
  have lift : ∀ (r : Int) (υ : ZS), Stm τ r υ → (0 ≤ r ∧ r ≤ 1) ∧ Q r υ := fun r υ h => ⟨by have := h.2.2.1; omega, hQ r υ ⟨h.1, p.tr h.2.1, h.2.2.1, h.2.2.2⟩⟩
  have flt : wpX11_instruction_123 τ Q := by
    unfold wpX11_instruction_123
    exact s_fault ⟨by decide, hQ 0 _ ⟨GG_34 g, p.tr PR_fault, Or.inl rfl, by show zI τ 0 31 ≤ 2 * zI τ 0 6; omega⟩⟩
  have oc : ∀ b : Int, 0 ≤ b → b ≤ 255 → wpX11_instruction_178 b τ Q := by
    intro b b0 b1
    unfold wpX11_instruction_178 wpX11_instruction_181
    exact s_octet g s33 (by omega) (by omega) (fun υ hE => hQ 1 υ ⟨hE.1, p.tr hE.2.1, Or.inr rfl, by have := hE.2.2.2.2; rw [hE.s6]; omega⟩)
  have f58 : ∀ a : Int, -100 ≤ a → a ≤ 100 → wpX11_instruction_58 a τ Q := by
    intro a a0 a1
    unfold wpX11_instruction_58
    exact s_reckon g fs s33 (by omega) ⟨a0, a1⟩ lift
  refine ⟨by omega, fun _ => ⟨fun _ => ⟨fun _ => ⟨fun _ => ⟨fun _ => ⟨fun _ => ⟨fun _ => ⟨fun _ => oc 244 (by decide) (by decide), fun _ => oc 203 (by decide) (by decide)⟩, fun _ => oc 195 (by decide) (by decide)⟩, fun _ => ⟨by omega, fun _ => flt, fun _ => ⟨by omega, fun q => ?_, fun _ => flt⟩⟩⟩, fun _ => s_jump g fs s33 (by omega) (by omega) (by omega) lift⟩, fun _ => s_single g fs s33 (by omega) (by omega) lift⟩, fun _ => s_stack g fs s33 (by omega) (by omega) lift⟩, fun _ => ⟨fun _ => ⟨fun _ => f58 _ (by omega) (by omega), fun _ => f58 1 (by decide) (by decide)⟩, fun _ => f58 0 (by decide) (by decide)⟩⟩, fun _ => s_mov g fs s33 (by omega) lift⟩
  refine s_octet g s33 (by omega) (by decide) (fun a hA => ?_)
  have y31 := hA.2.2.2.2; have y6 := hA.s6; have y10 := hA.2.2.1.1 10 (by decide)
  refine s_octet hA.1 (hA.s33 s33) (by omega) (by omega) (fun b hB => ?_)
  have z31 := hB.2.2.2.2; have z6 := hB.s6
  refine s_nextG hB.1 (fun d g2 p2 f2 _ s52 _ _ => ?_)
  have d31 := f2.1 31 (by decide)
  have d6 := p2.2.1
  unfold wpX11_instruction_181
  exact hQ 1 d ⟨g2, (p.tr (hA.2.1.tr hB.2.1)).tr p2, Or.inr rfl, by omega⟩
theorem s_data {σ : ZS} {c : Int} {Q : Int → ZS → Prop} (hG : GG σ) (hF : Fresh σ) (hs : zI σ 0 33 = 1) (hp : zI σ 0 31 + 2 ≤ 2 * zI σ 0 6) (hc : 0 ≤ c ∧ c ≤ 100) (hQ : ∀ (r : Int) (τ : ZS), Stm σ r τ → Q r τ) : wpX11_data c σ Q := by
  have hL := hG.2.1
  obtain ⟨l1, l2, l3, l4, l5, -⟩ := hL
  have flt : ∀ τ : ZS, GG τ → PR σ τ → zI τ 0 31 ≤ 2 * zI τ 0 6 → wpX11_fault τ (fun x1 σ2 => (0 ≤ x1 ∧ x1 ≤ 1) ∧ Q x1 σ2) := fun τ g p h => s_fault ⟨by decide, hQ 0 _ ⟨GG_34 g, p.tr PR_fault, Or.inl rfl, h⟩⟩
  have f48 : wpX11_data_48 c 1 σ Q := by
    unfold wpX11_data_48
    refine lfp1_ind (fun v τ => (zI σ 0 2 - zI τ 0 6).toNat + (if v = 0 then 0 else 1)) (fun v τ => (0 ≤ v ∧ v ≤ 1) ∧ GG τ ∧ PR σ τ ∧ Fresh τ ∧ zI τ 0 31 + 1 ≤ 2 * zI τ 0 6) ?_ ⟨by decide, hG, PR.rf, hF, by omega⟩
    intro P v τ hI hP
    obtain ⟨bv, g, p, fs, q31⟩ := hI
    have hLt := g.2.1
    obtain ⟨m1, m2, m3, m4, m5, -⟩ := hLt
    have s33 := p.seen g hs
    have e2 := p.1.1 2 (by decide)
    have f109 : ∀ υ : ZS, ¬ v = 0 → GG υ → PR σ υ → Fresh υ → zI υ 0 31 + 1 ≤ 2 * zI υ 0 6 → zI τ 0 6 + 1 ≤ zI υ 0 6 → wpX11_data_109 P c υ Q := by
      intro υ nv g2 p2 fs2 r31 r6
      have hL2 := g2.2.1
      obtain ⟨k1, k2, k3, -⟩ := hL2
      have e22 := p2.1.1 2 (by decide)
      unfold wpX11_data_109 wpX11_data_123
      refine ⟨by omega, fun _ => ⟨by decide, fun _ => hP _ _ ⟨by decide, g2, p2, fs2, r31⟩ (by rw [if_pos rfl, if_neg nv]; omega), fun q => absurd rfl q⟩, fun t => ⟨by decide, fun q => absurd q (by decide), fun _ => s_nextG g2 (fun ω g3 p3 f3 _ s53 _ fs3 => ?_)⟩⟩
      have w31 := f3.1 31 (by decide)
      have w6 := p3.2.1
      have hL3 := g3.2.1
      obtain ⟨j1, j2, -⟩ := hL3
      have w2 := f3.1 2 (by decide)
      refine hP _ _ ⟨by decide, g3, p2.tr p3, fs3, by omega⟩ ?_
      rw [if_neg (by decide), if_neg nv]
      omega
    unfold wpbX11_data_48 wpX11_data_76
    refine ⟨by omega, fun _ => hQ 1 τ ⟨g, p, Or.inr rfl, by omega⟩, fun nv => ⟨by omega, fun _ => s_value g fs (fun r υ hO h3 => ?_), fun _ => ⟨by omega, fun _ => flt τ g p (by omega), fun t2 => ⟨by omega, fun q => ?_, fun _ => flt τ g p (by omega)⟩⟩⟩⟩
    · obtain ⟨g2, p2, o31, or, oq⟩ := hO
      have o6 := p2.2.1
      refine ⟨by omega, fun n0 => ?_, fun _ => hQ 0 υ ⟨g2, p.tr p2, Or.inl rfl, by omega⟩⟩
      obtain ⟨x6, xO, xF⟩ := oq (by omega)
      refine s_emitValue g2 ((p.tr p2).seen g2 hs) (by omega) (h3 (by omega)) xO (fun ω hE => ?_)
      have y31 := hE.2.2.2.2; have y6 := hE.s6
      refine f109 ω nv hE.1 ((p.tr p2).tr hE.2.1) (fun t => ?_) (by omega) (by omega)
      have y7 := hE.2.2.1.1 7 (by decide); have y17 := hE.2.2.1.1 17 (by decide); have y23 := hE.2.2.1.1 23 (by decide)
      have := xF (by omega)
      omega
    · refine s_octet g s33 (by omega) (by omega) (fun υ hE => ?_)
      have y31 := hE.2.2.2.2; have y6 := hE.s6; have y5 := hE.2.2.1.1 5 (by decide)
      have hlt := g.2.2.1.2.1 (by omega)
      refine s_nextG hE.1 (fun ω g3 p3 f3 _ s53 _ fs3 => ?_)
      have w31 := f3.1 31 (by decide)
      exact f109 ω nv g3 ((p.tr hE.2.1).tr p3) fs3 (by omega) (by omega)
  unfold wpX11_data wpX11_data_23
  refine ⟨by omega, fun _ => f48, fun _ => ⟨by omega, fun _ => flt σ hG PR.rf (by omega), fun t => ⟨by omega, fun q => ?_, fun _ => flt σ hG PR.rf (by omega)⟩⟩⟩
  refine s_piece hG hs (by omega) (by decide) (fun _ q => absurd q (by decide)) (fun _ => by omega) (by omega) (by decide) (by decide) (fun q => absurd q (by decide)) (fun υ hE => ?_)
  have y31 := hE.2.2.2.2; have y6 := hE.s6
  refine s_nextG hE.1 (fun ω g3 p3 f3 _ s53 _ fs3 => ?_)
  have w31 := f3.1 31 (by decide)
  have w6 := p3.2.1
  exact hQ 1 ω ⟨g3, hE.2.1.tr p3, Or.inr rfl, by omega⟩
