/-! X: statements on both sides -/
theorem Em.sy {h : Int → Int} {L i k : Int} {E : Int → Int} {σ ρ ρ' : ZS} (e : Em k ρ ρ') (s : SY h L E σ i ρ) : SY h L E σ i ρ' := s.fr e.2.2.1 (by decide) (by decide) (by decide) (by decide) (by decide) (by decide) (by decide) (by decide)
theorem Em.fresh {k : Int} {ρ ρ' : ZS} (e : Em k ρ ρ') (f : Fresh ρ) : Fresh ρ' := by
  intro q
  rw [e.2.2.1.1 7 (by decide)] at q
  rw [e.2.2.1.1 17 (by decide), e.2.2.1.1 6 (by decide), e.2.2.1.1 23 (by decide)]
  exact f q
theorem Em.or {k g : Int} {σ ρ ρ' : ZS} (e : Em k ρ ρ') (o : OR σ g ρ) : OR σ g ρ' := o.k rfl (e.2.2.1.1 37 (by decide)) (e.2.2.1.1 38 (by decide)) (e.2.2.1.1 39 (by decide)) (e.2.2.1.1 41 (by decide)) (e.2.2.1.1 42 (by decide))
/-- what a statement of the class does: x tells whether it goes on -/
def CSt (σ τ : ZS) (x : Int) : Prop := (0 ≤ x ∧ x ≤ 1) ∧ PG σ τ ∧ (x = 1 → 2 * zI τ 13 7 ≤ 2 * zI σ 13 7 + (zA σ 12 2 (zI τ 14 4) - zA σ 12 2 (zI σ 14 4)) + 3 ∧ zA σ 12 2 (zI σ 14 4) ≤ zA σ 12 2 (zI τ 14 4))
/-- the reference's W does the same -/
def TSt (h : Int → Int) (L : Int) (E M : Int → Int) (σ τ : ZS) (x : Int) (W : ZS → (Int → ZS → Prop) → Prop) : Prop := ∀ (ρ : ZS) (Qr : Int → ZS → Prop), SY h L E σ (zI σ 14 4) ρ → RB σ ρ (M (zI σ 14 4)) [] → Fresh ρ → zI ρ 0 31 + 2 ≤ 2 * zI ρ 0 6 → (x = 1 → ∀ ρ' : ZS, SY h L E τ (zI τ 14 4) ρ' → RB τ ρ' (M (zI τ 14 4)) [] → Fresh ρ' → PR ρ ρ' → zI ρ' 0 31 ≤ 2 * zI ρ' 0 6 → Qr 1 ρ') → (x = 0 → ∀ ρ' : ZS, GG ρ' → PR ρ ρ' → Qr 0 ρ') → W ρ Qr
theorem t_single {h : Int → Int} {L a k c : Int} {E M : Int → Int} {σ : ZS} {Q : Int → ZS → Prop} (hP : PS σ) (hC : CT h L E M σ) (ho : zI σ 14 5 = 1) (hz : zI σ 13 7 ≤ 242) (hac : (c = 29 ∧ a = 209 ∧ k = 4) ∨ (c = 30 ∧ a = 209 ∧ k = 5) ∨ (c = 31 ∧ a = 247 ∧ k = 3) ∨ (c = 32 ∧ a = 247 ∧ k = 4) ∨ (c = 33 ∧ a = 247 ∧ k = 6)) (hQ : ∀ (x : Int) (τ : ZS), CSt σ τ x → TSt h L E M σ τ x (wpX11_single c) → Q x τ) : wpX8_single a k σ Q := by
  have hab : AB 3 9 := by unfold AB; decide
  unfold wpX8_single
  refine t_operand (b := 9) (by decide) hP hC hab (fun τ og oi ok tr => ⟨by decide, fun _ => ?_, fun q => absurd q (by decide)⟩) (fun τ og tr => ⟨by decide, fun q => absurd rfl q, fun _ => hQ 0 τ ⟨by decide, (PG.rf hP).o5 og, fun q => absurd q (by decide)⟩ (fun ρ Qr rS rB rF r31 h1 h0 => ?_)⟩)
  rotate_left
  · unfold wpX11_single
    exact tr ρ [] _ rS rB rF (fun ρ' g p => ⟨by decide, fun q => absurd rfl q, fun _ => h0 rfl ρ' g p⟩)
  have pg := (PG.rf hP).o5 og
  have o1 : zI τ 14 5 = 1 := pg.2.2.trans ho
  have lv := og.lv (by decide)
  have s13 : zI τ 13 7 = zI σ 13 7 := ob_I lv.2.2.1 7
  have kk : (zI τ 5 0 = 1 ∧ zA σ 12 2 (zI σ 14 4) + 2 ≤ zA σ 12 2 (zI τ 14 4)) ∨ (zI τ 5 0 = 2 ∧ zA σ 12 2 (zI σ 14 4) + 3 ≤ zA σ 12 2 (zI τ 14 4)) := by
    rcases ok with ⟨q, -, q'⟩ | ⟨q, q', -⟩ | ⟨q, -, q'⟩ | ⟨q, q', -⟩
    · exact Or.inl ⟨q, q'⟩
    · exact q'.elim (fun z => absurd (by decide) z) (fun z => absurd (by decide) z)
    · exact Or.inr ⟨q, q'⟩
    · exact absurd (by decide) q'
  refine x_addWithM (by decide) og.1 o1 oi (by omega) (fun υ up uk us us' uy => hQ 1 υ ⟨by decide, pg.ad up uk, fun _ => ?_⟩ (fun ρ Qr rS rB rF r31 h1 h0 => ?_))
  · rw [uk.I (by decide) 4]
    rcases kk with ⟨k1, q⟩ | ⟨k1, q⟩
    · rw [if_pos k1] at us'; omega
    · rw [if_neg (by omega)] at us'; omega
  · unfold wpX11_single
    refine tr ρ [] _ rS rB rF (fun ρ1 s1 b1 d1 r1 => ⟨by decide, fun _ => ?_, fun q => absurd q (by decide)⟩)
    obtain ⟨g1, p1, q31, -, q1⟩ := d1
    obtain ⟨q6, qU, qF⟩ := q1 rfl
    have e33 : zI ρ1 0 33 = 1 := by rw [b1.2.2.1]; exact o1
    have b1' : RBd τ (yS τ) ρ1 (M (zI τ 14 4)) (nm (zI τ 5 3) ++ []) := by rw [List.append_nil]; exact b1
    have f27 : wpX11_single_27 c a ρ1 Qr := by
      unfold wpX11_single_27
      refine r_octD b1' e33 (by omega) (by omega) (fun ρ2 b2 e2 => ?_)
      have j6 := e2.s6
      have j31 := e2.2.2.2.2
      have f73 : wpX11_single_73 k ρ2 Qr := by
        unfold wpX11_single_73
        refine r_emitForm (g := 5) b2 (e2.or r1) oi.1 (by omega) (by omega) (e2.ops qU) (e2.s33 e33) (by omega) (fun ρ3 b3 e3 => ?_)
        have i6 := e3.s6
        have i31 := e3.2.2.2.2
        refine h1 rfl ρ3 ?_ ?_ (e3.fresh (e2.fresh qF)) (p1.tr (e2.2.1.tr e3.2.1)) (by omega)
        · rw [uk.I (by decide) 4]
          exact (e3.sy (e2.sy s1)).k (uk 11 (by decide)) (uk 12 (by decide))
        · rw [uk.I (by decide) 4]
          refine b3.b (uk 11 (by decide)) (uk.I (by decide) 5) ?_
          rw [uy, show a % 256 = a by omega]
      refine ⟨by omega, fun n29 => ⟨fun n30 => ⟨fun n31 => ⟨fun n32 => ?_, fun y => ?_⟩, fun y => ?_⟩, fun y => ?_⟩, fun y => ?_⟩
      · rw [show (6 : Int) = k by omega]; exact f73
      · rw [show (4 : Int) = k by omega]; exact f73
      · rw [show (3 : Int) = k by omega]; exact f73
      · rw [show (5 : Int) = k by omega]; exact f73
      · rw [show (4 : Int) = k by omega]; exact f73
    refine ⟨by omega, fun y => ?_, fun y => ?_⟩
    · rw [show (247 : Int) = a by omega]; exact f27
    · rw [show (209 : Int) = a by omega]; exact f27
/-- inc, dec, push, pop -/
theorem t_onRegister {h : Int → Int} {L a s al b c : Int} {E M : Int → Int} {σ : ZS} {Q : Int → ZS → Prop} (hP : PS σ) (hC : CT h L E M σ) (ho : zI σ 14 5 = 1) (hz : zI σ 13 7 ≤ 242) (hac : (c = 25 ∧ a = 64 ∧ s = 0 ∧ al = 1 ∧ b = 1) ∨ (c = 26 ∧ a = 72 ∧ s = 0 ∧ al = 1 ∧ b = 1) ∨ (c = 27 ∧ a = 80 ∧ s = 6 ∧ al = 25 ∧ b = 3) ∨ (c = 28 ∧ a = 88 ∧ s = 7 ∧ al = 9 ∧ b = 5)) (hQ : ∀ (x : Int) (τ : ZS), CSt σ τ x → TSt h L E M σ τ x (wpX11_stack c) → Q x τ) : wpX8_onRegister a s al σ Q := by
  have hab : AB al b := by
    rcases hac with ⟨-, -, -, rfl, rfl⟩ | ⟨-, -, -, rfl, rfl⟩ | ⟨-, -, -, rfl, rfl⟩ | ⟨-, -, -, rfl, rfl⟩ <;> (unfold AB; decide)
  -- the reference's road to its operand
  have road : ∀ (ρ : ZS) (Qr : Int → ZS → Prop), wpX11_operand b ρ (fun x14 σ15 => (-2147483648 ≤ x14 ∧ x14 ≤ 2147483647) ∧ (¬ x14 = 0 → wpX11_stack_47 c (if c = 27 then 1 else 0) σ15 Qr) ∧ (x14 = 0 → wpX11_stack_45 σ15 Qr)) → wpX11_stack c ρ Qr := by
    intro ρ Qr k
    unfold wpX11_stack wpX11_stack_11 wpX11_stack_39
    rcases hac with ⟨rfl, -, -, -, rfl⟩ | ⟨rfl, -, -, -, rfl⟩ | ⟨rfl, -, -, -, rfl⟩ | ⟨rfl, -, -, -, rfl⟩
    · exact ⟨by decide, fun _ => ⟨by decide, fun q => absurd q (by decide), fun _ => k⟩, fun q => absurd q (by decide)⟩
    · exact ⟨by decide, fun _ => ⟨by decide, fun q => absurd q (by decide), fun _ => k⟩, fun q => absurd q (by decide)⟩
    · exact ⟨by decide, fun q => absurd rfl q, fun _ => ⟨by decide, fun _ => ⟨by decide, fun q => absurd q (by decide), fun _ => k⟩, fun q => absurd (by decide) q⟩⟩
    · exact ⟨by decide, fun _ => ⟨by decide, fun _ => ⟨by decide, fun _ => k, fun q => absurd rfl q⟩, fun q => absurd (by decide) q⟩, fun q => absurd q (by decide)⟩
  unfold wpX8_onRegister wpX8_onRegister_53
  refine t_operand (b := b) (by decide) hP hC hab (fun τ og oi ok tr => ⟨by decide, fun _ => ?_, fun q => absurd q (by decide)⟩) (fun τ og tr => ⟨by decide, fun q => absurd rfl q, fun _ => hQ 0 τ ⟨by decide, (PG.rf hP).o5 og, fun q => absurd q (by decide)⟩ (fun ρ Qr rS rB rF r31 h1 h0 => road ρ Qr (tr ρ [] _ rS rB rF (fun ρ' g p => ⟨by decide, fun q => absurd rfl q, fun _ => h0 rfl ρ' g p⟩)))⟩)
  have pg := (PG.rf hP).o5 og
  have o1 : zI τ 14 5 = 1 := pg.2.2.trans ho
  have lv := og.lv (by decide)
  have s13 : zI τ 13 7 = zI σ 13 7 := ob_I lv.2.2.1 7
  have kk : (zI τ 5 0 = 1 ∨ zI τ 5 0 = 8) ∧ zA σ 12 2 (zI σ 14 4) + 2 ≤ zA σ 12 2 (zI τ 14 4) := by
    rcases ok with ⟨q, -, q'⟩ | ⟨q, -, q'⟩ | ⟨q, q', -⟩ | ⟨q, q', -⟩
    · exact ⟨Or.inl q, q'⟩
    · exact ⟨Or.inr q, q'⟩
    · exfalso; rcases hac with ⟨-, -, -, rfl, -⟩ | ⟨-, -, -, rfl, -⟩ | ⟨-, -, -, rfl, -⟩ | ⟨-, -, -, rfl, -⟩ <;> exact q' (by decide)
    · exfalso; rcases hac with ⟨-, -, -, rfl, -⟩ | ⟨-, -, -, rfl, -⟩ | ⟨-, -, -, rfl, -⟩ | ⟨-, -, -, rfl, -⟩ <;> exact q' (by decide)
  have k8 : zI τ 5 0 = 8 → c = 27 ∨ c = 28 := by
    intro q
    rcases ok with ⟨q', -⟩ | ⟨-, q', -⟩ | ⟨q', -⟩ | ⟨q', -⟩
    · omega
    · rcases hac with ⟨-, -, -, rfl, -⟩ | ⟨-, -, -, rfl, -⟩ | ⟨z, -⟩ | ⟨z, -⟩
      · exact q'.elim (fun z => absurd (by decide) z) (fun z => absurd (by decide) z)
      · exact q'.elim (fun z => absurd (by decide) z) (fun z => absurd (by decide) z)
      · exact Or.inl z
      · exact Or.inr z
    · omega
    · omega
  have r5 := oi.1.1
  -- the byte
  have byt : ∀ v : Int, ((zI τ 5 0 = 1 ∧ v = a + zI τ 5 1) ∨ (zI τ 5 0 = 8 ∧ v = s + 8 * zI τ 5 1)) → wpX0_addByte v τ (fun σ2 => Q 1 σ2) := by
    intro v hv
    refine x_addByte og.1 o1 (by omega) (fun υ up uk us uy => hQ 1 υ ⟨by decide, pg.ad up uk, fun _ => by rw [uk.I (by decide) 4]; omega⟩ (fun ρ Qr rS rB rF r31 h1 h0 => road ρ Qr (tr ρ [] _ rS rB rF (fun ρ1 s1 b1 d1 r1 => ⟨by decide, fun _ => ?_, fun q => absurd q (by decide)⟩))))
    obtain ⟨g1, p1, q31, -, q1⟩ := d1
    obtain ⟨q6, qU, qF⟩ := q1 rfl
    have e33 : zI ρ1 0 33 = 1 := by rw [b1.2.2.1]; exact o1
    have n3 : zI τ 5 3 = -1 := by
      rcases r1 with ⟨-, -, -, -, -, q⟩ | ⟨-, -, -, -, -, q⟩ | ⟨q, -⟩ | ⟨q, -⟩
      · exact q
      · exact q
      · omega
      · omega
    have r37 : (zI τ 5 0 = 1 ∧ zI ρ1 0 37 = 0 ∧ zI ρ1 0 38 = zI τ 5 1 ∧ 0 ≤ zI τ 5 1 ∧ zI τ 5 1 < 8) ∨ (zI τ 5 0 = 8 ∧ zI ρ1 0 37 = 1 ∧ zI ρ1 0 38 = zI τ 5 1 ∧ 0 ≤ zI τ 5 1 ∧ zI τ 5 1 < 4) := by
      rcases r1 with ⟨x1, x2, x3, x4, x5, -⟩ | ⟨x1, x2, x3, x4, x5, -⟩ | ⟨q, -⟩ | ⟨q, -⟩
      · exact Or.inl ⟨x1, x2, x3, x4, x5⟩
      · exact Or.inr ⟨x1, x2, x3, x4, x5⟩
      · omega
      · omega
    have b1' : RBd τ (yS τ) ρ1 (M (zI τ 14 4)) [] := by rw [n3] at b1; exact b1
    have fin : ∀ w : Int, w = v → wpX11_octet w ρ1 (fun σ2 => wpX11_stack_123 σ2 Qr) := by
      intro w hw
      refine r_octD b1' e33 (by omega) (by omega) (fun ρ2 b2 e2 => ?_)
      have j6 := e2.s6
      have j31 := e2.2.2.2.2
      unfold wpX11_stack_123
      refine h1 rfl ρ2 ?_ ?_ (e2.fresh qF) (p1.tr e2.2.1) (by omega)
      · rw [uk.I (by decide) 4]
        exact (e2.sy s1).k (uk 11 (by decide)) (uk 12 (by decide))
      · rw [uk.I (by decide) 4]
        refine b2.b (uk 11 (by decide)) (uk.I (by decide) 5) ?_
        rw [uy, hw, show v % 256 = v by omega]
    have l37 : -2147483648 ≤ zI ρ1 0 37 ∧ zI ρ1 0 37 ≤ 2147483647 := by omega
    unfold wpX11_stack_47 wpX11_stack_115 wpX11_stack_67
    refine ⟨l37, fun y => ⟨by omega, fun n25 => ⟨fun n26 => ⟨by split <;> decide, fun z => fin _ ?_, fun z => fin _ ?_⟩, fun y26 => fin _ ?_⟩, fun y25 => fin _ ?_⟩, fun y => ⟨by split <;> decide, fun z => fin _ ?_, fun z => fin _ ?_⟩⟩
    · have : c ≠ 27 := fun q => by rw [if_pos q] at z; exact absurd z (by decide)
      omega
    · have : c = 27 := by
        by_cases q : c = 27
        · exact q
        · rw [if_neg q] at z; exact absurd rfl z
      omega
    · omega
    · omega
    · have : c ≠ 27 := fun q => by rw [if_pos q] at z; exact absurd z (by decide)
      have := k8 (by omega)
      omega
    · have : c = 27 := by
        by_cases q : c = 27
        · exact q
        · rw [if_neg q] at z; exact absurd rfl z
      omega
  exact ⟨by omega, fun y => byt _ (Or.inr ⟨by omega, rfl⟩), fun y => byt _ (Or.inl ⟨y, rfl⟩)⟩
