/-! X: mov, as a whole -/
/-- the reference behind its second operand, the first being memory -/
def mC2 (ρ1 ρ3 : ZS) (Q : Int → ZS → Prop) : Prop := (-2147483648 ≤ (zI ρ3 0 37) ∧ (zI ρ3 0 37) ≤ 2147483647) ∧ (¬ (zI ρ3 0 37) = 0 → (¬ (zI ρ3 0 37) = 1 → wpX11_mov_149 (zI ρ1 0 31) (zI ρ3 0 37) (zI ρ3 0 38) (zI ρ3 0 39) 199 (zsI (zsI (zsI (zsI (zsI ρ3 0 37 2) 0 38 (zI ρ1 0 38)) 0 39 (zI ρ1 0 39)) 0 41 (zI ρ1 0 41)) 0 42 (zI ρ1 0 42)) Q) ∧ ((zI ρ3 0 37) = 1 → wpX11_mov_149 (zI ρ1 0 31) (zI ρ3 0 37) (zI ρ3 0 38) (zI ρ3 0 39) 140 (zsI (zsI (zsI (zsI (zsI ρ3 0 37 2) 0 38 (zI ρ1 0 38)) 0 39 (zI ρ1 0 39)) 0 41 (zI ρ1 0 41)) 0 42 (zI ρ1 0 42)) Q)) ∧ ((zI ρ3 0 37) = 0 → wpX11_mov_149 (zI ρ1 0 31) (zI ρ3 0 37) (zI ρ3 0 38) (zI ρ3 0 39) 137 (zsI (zsI (zsI (zsI (zsI ρ3 0 37 2) 0 38 (zI ρ1 0 38)) 0 39 (zI ρ1 0 39)) 0 41 (zI ρ1 0 41)) 0 42 (zI ρ1 0 42)) Q)
/-- the same, the first being a register -/
def mCT (ρ1 ρ3 : ZS) (Q : Int → ZS → Prop) : Prop := (-2147483648 ≤ zI ρ1 0 37 ∧ zI ρ1 0 37 ≤ 2147483647) ∧ (¬ zI ρ1 0 37 = 1 → (-2147483648 ≤ (zI ρ3 0 37) ∧ (zI ρ3 0 37) ≤ 2147483647) ∧ (¬ (zI ρ3 0 37) = 1 → ((zI ρ3 0 37) ≤ 2 → wpX11_octet 139 ρ3 (fun σ11 => wpX11_emitForm (zI ρ1 0 38) σ11 (fun σ13 => (0 ≤ (1 : Int) ∧ (1 : Int) ≤ 1) ∧ Q 1 σ13))) ∧ (¬ (zI ρ3 0 37) ≤ 2 → wpX11_octet (184 + zI ρ1 0 38) ρ3 (fun σ15 => wpX11_emitValue σ15 (fun σ17 => (0 ≤ (1 : Int) ∧ (1 : Int) ≤ 1) ∧ Q 1 σ17)))) ∧ ((zI ρ3 0 37) = 1 → wpX11_octet 140 ρ3 (fun σ19 => wpX11_octet ((192 + (8 * (zI σ19 0 38))) + zI ρ1 0 38) σ19 (fun σ21 => (0 ≤ (1 : Int) ∧ (1 : Int) ≤ 1) ∧ Q 1 σ21)))) ∧ (zI ρ1 0 37 = 1 → wpX11_octet 142 ρ3 (fun σ23 => wpX11_emitForm (zI ρ1 0 38) σ23 (fun σ25 => (0 ≤ (1 : Int) ∧ (1 : Int) ≤ 1) ∧ Q 1 σ25)))
theorem t_mov {h : Int → Int} {L : Int} {E M : Int → Int} {σ : ZS} {Q : Int → ZS → Prop} (hP : PS σ) (hC : CT h L E M σ) (ho : zI σ 14 5 = 1) (hz : zI σ 13 7 ≤ 242) (hQ : ∀ (x : Int) (τ : ZS), CSt σ τ x → TSt h L E M σ τ x wpX11_mov → Q x τ) : wpX8_mov σ Q := by
  have ab1 : AB 11 13 := by unfold AB; decide
  unfold wpX8_mov wpX8_mov_22
  refine t_operand (b := 13) (by decide) hP hC ab1 (fun τ og oi ok tr => ⟨by decide, fun q => absurd q (by decide), fun _ => ?_⟩) (fun τ og tr => ⟨by decide, fun _ => hQ 0 τ ⟨by decide, (PG.rf hP).o5 og, fun q => absurd q (by decide)⟩ (fun ρ Qr rS rB rF r31 h1 h0 => ?_), fun q => absurd rfl q⟩)
  rotate_left
  · unfold wpX11_mov
    exact tr ρ [] _ rS rB rF (fun ρ' g p => ⟨by decide, fun q => absurd rfl q, fun _ => h0 rfl ρ' g p⟩)
  have pg := (PG.rf hP).o5 og
  have lv := og.lv (by decide)
  have hC1 := hC.k lv.1 lv.2.1
  have i0 := og.1.2.2.1.1
  have i1 : zI τ 14 4 < zI τ 12 3 := by have := og.1.2.2.1; omega
  have s13 : zI τ 13 7 = zI σ 13 7 := ob_I lv.2.2.1 7
  have w2 : zA τ 12 2 = zA σ 12 2 := ob_A lv.2.1 2
  have kk : ((zI τ 5 0 = 1 ∨ zI τ 5 0 = 8) ∧ zA σ 12 2 (zI σ 14 4) + 2 ≤ zA σ 12 2 (zI τ 14 4)) ∨ (zI τ 5 0 = 2 ∧ zA σ 12 2 (zI σ 14 4) + 3 ≤ zA σ 12 2 (zI τ 14 4)) := by
    rcases ok with ⟨q, -, q'⟩ | ⟨q, -, q'⟩ | ⟨q, -, q'⟩ | ⟨q, q', -⟩
    · exact Or.inl ⟨Or.inl q, q'⟩
    · exact Or.inl ⟨Or.inr q, q'⟩
    · exact Or.inr ⟨q, q'⟩
    · exact absurd (by decide) q'
  have fst : ∀ ρ1 : ZS, OR τ 5 ρ1 → (zI τ 5 0 = 1 ∧ zI ρ1 0 37 = 0 ∧ zI ρ1 0 38 = zI τ 5 1 ∧ 0 ≤ zI τ 5 1 ∧ zI τ 5 1 < 8 ∧ zI τ 5 3 = -1) ∨ (zI τ 5 0 = 8 ∧ zI ρ1 0 37 = 1 ∧ zI ρ1 0 38 = zI τ 5 1 ∧ 0 ≤ zI τ 5 1 ∧ zI τ 5 1 < 4 ∧ zI τ 5 3 = -1) ∨ (zI τ 5 0 = 2 ∧ zI ρ1 0 37 = 2) := by
    intro ρ1 r
    rcases r with a | a | ⟨a, b, -⟩ | ⟨a, -⟩
    · exact Or.inl a
    · exact Or.inr (Or.inl a)
    · exact Or.inr (Or.inr ⟨a, b.1⟩)
    · omega
  -- a comma that is missing
  have bad : zA τ 12 0 (zI τ 14 4) ≠ 44 → Q 0 τ := by
    intro ne
    refine hQ 0 τ ⟨by decide, pg, fun q => absurd q (by decide)⟩ (fun ρ Qr rS rB rF r31 h1 h0 => ?_)
    unfold wpX11_mov wpX11_mov_74
    refine tr ρ [] _ rS rB rF (fun ρ1 s1 b1 d1 r1 => ⟨by decide, fun _ => ⟨by have := fst ρ1 r1; omega, fun _ => ?_, fun _ => ?_⟩, fun q => absurd q (by decide)⟩)
    · exact r_take hC1 i0 i1 s1 b1 (by unfold cS; omega) (fun t => absurd t ne) (fun _ => ⟨by decide, fun _ => h0 rfl _ (GG_34 b1.1) (d1.2.1.tr PR_fault), fun q => absurd rfl q⟩)
    · unfold wpX11_movTo wpX11_movTo_28
      exact r_take hC1 i0 i1 s1 b1 (by unfold cS; omega) (fun t => absurd t ne) (fun _ => ⟨by decide, fun _ => ⟨by decide, h0 rfl _ (GG_34 b1.1) (d1.2.1.tr PR_fault)⟩, fun q => absurd rfl q⟩)
  refine c_take og.1 (by decide) (fun e44 p2 => ⟨by decide, fun _ => ?_, fun q => absurd q (by decide)⟩) (fun ne => ⟨by decide, fun q => absurd rfl q, fun _ => bad ne⟩)
  have pg2 := pg.on (show zA τ 12 0 (zI τ 14 4) ≠ 0 by omega)
  have q5 : ob (zsI τ 14 4 (zI τ 14 4 + 1)) 5 = ob τ 5 := ob_i (by decide)
  have q11 : ob (zsI τ 14 4 (zI τ 14 4 + 1)) 11 = ob τ 11 := ob_i (by decide)
  have q12 : ob (zsI τ 14 4 (zI τ 14 4 + 1)) 12 = ob τ 12 := ob_i (by decide)
  have q13 : ob (zsI τ 14 4 (zI τ 14 4 + 1)) 13 = ob τ 13 := ob_i (by decide)
  have qa : zI (zsI τ 14 4 (zI τ 14 4 + 1)) 14 4 = zI τ 14 4 + 1 := zI_s
  have qo : zI (zsI τ 14 4 (zI τ 14 4 + 1)) 14 5 = zI τ 14 5 := zI_f (by decide)
  have hC2 := hC1.k q11 q12
  have pl1 := (hC1.pl i0 i1 (show zA τ 12 0 (zI τ 14 4) ≠ 0 by omega)).1
  rw [w2] at pl1
  have r5 := oi.1.1
  -- both operands stand, or the second fails
  have f59 : ∀ (v s : Int) (C : ZS → ZS → (Int → ZS → Prop) → Prop), AB v s → (zI τ 5 0 = 8 → zand v 4 = 0 ∧ zand v 8 = 0 ∧ zand v 16 = 0) → (zI τ 5 0 = 2 → zand v 2 = 0) → (zI τ 5 0 = 2 → C = mC2) → (zI τ 5 0 ≠ 2 → C = mCT) →
      (∀ (ρ : ZS) (Qr : Int → ZS → Prop), SY h L E σ (zI σ 14 4) ρ → RB σ ρ (M (zI σ 14 4)) [] → Fresh ρ → (∀ ρ1 ρ2 : ZS, OR τ 5 ρ1 → Opd ρ 1 ρ1 → PR ρ1 ρ2 → zI ρ2 0 31 = zI ρ1 0 31 → zI ρ1 0 6 + 1 ≤ zI ρ2 0 6 → SY h L E (zsI τ 14 4 (zI τ 14 4 + 1)) (zI (zsI τ 14 4 (zI τ 14 4 + 1)) 14 4) ρ2 → RB (zsI τ 14 4 (zI τ 14 4 + 1)) ρ2 (M (zI (zsI τ 14 4 (zI τ 14 4 + 1)) 14 4)) (nm (zI τ 5 3)) → Fresh ρ2 → ∀ K : Int → ZS → Prop, (∀ ρ3 : ZS, C ρ1 ρ3 Qr → K 1 ρ3) → (∀ ρ3 : ZS, Qr 0 ρ3 → K 0 ρ3) → wpX11_operand s ρ2 K) → wpX11_mov ρ Qr) → wpX8_mov_59 v (zsI τ 14 4 (zI τ 14 4 + 1)) Q := by
    intro v s C ab hv8 hv2 c2 cT road
    unfold wpX8_mov_59 wpX8_mov_203 wpX8_mov_273
    refine t_operand (b := s) (by decide) pg2.1 hC2 ab (fun υ ug ui uk ut => ⟨by decide, fun _ => ?_, fun q => absurd q (by decide)⟩) (fun υ ug ut => ⟨by decide, fun q => absurd rfl q, fun _ => hQ 0 υ ⟨by decide, pg2.o6 ug, fun q => absurd q (by decide)⟩ (fun ρ Qr rS rB rF r31 h1 h0 => road ρ Qr rS rB rF (fun ρ1 ρ2 r1 d1 p12 e31 e6 s2 b2 f2 K k1 k0 => ?_))⟩)
    rotate_left
    · exact ut ρ2 _ _ s2 b2 f2 (fun ρ' g p => k0 ρ' (h0 rfl ρ' g (d1.2.1.tr (p12.tr p))))
    have ul := ug.lv (by decide)
    have pg3 := pg2.o6 ug
    have uo : zI υ 14 5 = 1 := pg3.2.2.trans ho
    have u5 : ob υ 5 = ob τ 5 := (ug.2.1 5 (by decide)).trans q5
    have u5i : OPI υ 5 := oi.k (ul.1.trans q11) u5
    have us : zI υ 13 7 = zI σ 13 7 := by rw [ob_I ul.2.2.1 7, ob_I q13 7, s13]
    have k6 : ((zI υ 6 0 = 1 ∨ (zI υ 6 0 = 8 ∧ zI τ 5 0 ≠ 8) ∨ (zI υ 6 0 = 4 ∧ zI τ 5 0 ≠ 8)) ∧ zA σ 12 2 (zI τ 14 4) + 2 ≤ zA σ 12 2 (zI υ 14 4)) ∨ (zI υ 6 0 = 2 ∧ zI τ 5 0 ≠ 2 ∧ zA σ 12 2 (zI τ 14 4) + 3 ≤ zA σ 12 2 (zI υ 14 4)) := by
      have e2 : zA (zsI τ 14 4 (zI τ 14 4 + 1)) 12 2 = zA σ 12 2 := (ob_A q12 2).trans w2
      unfold OKo at uk
      rw [e2, qa] at uk
      rcases uk with ⟨q, -, q'⟩ | ⟨q, q', q''⟩ | ⟨q, q', q''⟩ | ⟨q, q'', q'⟩
      · exact Or.inl ⟨Or.inl q, by omega⟩
      · refine Or.inl ⟨Or.inr (Or.inl ⟨q, fun z8 => ?_⟩), by omega⟩
        have := hv8 z8
        exact q'.elim (fun z => z this.2.1) (fun z => z this.2.2)
      · exact Or.inr ⟨q, fun z2 => q' (hv2 z2), by omega⟩
      · exact Or.inl ⟨Or.inr (Or.inr ⟨q, fun z8 => q'' (hv8 z8).1⟩), by omega⟩
    have r6 := ui.1.1
    have t0 : zI υ 5 0 = zI τ 5 0 := ob_I u5 0
    have t1 : zI υ 5 1 = zI τ 5 1 := ob_I u5 1
    -- the end, seen from both sides
    have fin : ∀ ω : ZS, PS ω → kp [13] υ ω → 2 * zI ω 13 7 ≤ 2 * zI σ 13 7 + (zA σ 12 2 (zI υ 14 4) - zA σ 12 2 (zI σ 14 4)) + 3 → EmC h L E M τ υ ω C → Q 1 ω := by
      intro ω wp wk wz em
      refine hQ 1 ω ⟨by decide, pg3.ad wp wk, fun _ => by rw [wk.I (by decide) 4]; exact ⟨wz, by omega⟩⟩ (fun ρ Qr rS rB rF r31 h1 h0 => road ρ Qr rS rB rF (fun ρ1 ρ2 r1 d1 p12 e31 e6 s2 b2 f2 K k1 k0 => ?_))
      obtain ⟨g1, p1, q31, -, q1⟩ := d1
      obtain ⟨q6, qU, qF⟩ := q1 rfl
      refine ut ρ2 _ _ s2 b2 f2 (fun ρ3 s3 b3 d3 r3 => k1 ρ3 ?_)
      obtain ⟨g3, p3, q331, -, q3⟩ := d3
      obtain ⟨q36, q3U, q3F⟩ := q3 rfl
      have e33 : zI ρ3 0 33 = 1 := by rw [b3.2.2.1]; exact uo
      refine em ρ1 ρ3 Qr g1 r1 qU (p12.tr p3) (by omega) r3 q3U e33 (by omega) b3 (fun ρ' b' pr' e31' kf => h1 rfl ρ' ?_ ?_ (kf.fresh q3F) (p1.tr (p12.tr (p3.tr pr'))) (by have := kf.2.2; omega))
      · rw [wk.I (by decide) 4]
        exact (kf.sy s3).k (wk 11 (by decide)) (wk 12 (by decide))
      · rw [wk.I (by decide) 4]
        exact b'.b (wk 11 (by decide)) (wk.I (by decide) 5) rfl
    -- the left operand is memory: the reference puts it back
    have b149 : ∀ (ω ρ1 ρ3 : ZS) (Qr : Int → ZS → Prop) (a k : Int), zI τ 5 0 = 2 → GG ρ1 → OR τ 5 ρ1 → OpU ρ1 → PR ρ1 ρ3 → zI ρ3 0 31 = zI ρ1 0 31 → OR υ 6 ρ3 → OpU ρ3 → zI ρ3 0 33 = 1 → zI ρ3 0 31 + 4 ≤ 2 * zI ρ3 0 6 → RBd υ (yS υ) ρ3 (M (zI υ 14 4)) (nm (zI τ 5 3) ++ nm (zI υ 6 3)) → (0 ≤ a ∧ a ≤ 255) → (0 ≤ k ∧ k < 8) → ((2 ≤ zI ρ3 0 37 ∧ k = 0 ∧ zI υ 6 0 = 4) ∨ (zI ρ3 0 37 < 2 ∧ k = zI ρ3 0 38 ∧ zI υ 6 0 ≠ 4 ∧ zI υ 6 3 = -1)) → (zI υ 6 0 = 4 → yS ω = yV (yMt (yP (yS υ) 0 a 0) υ 5 k) (zI υ 6 3) (zI υ 6 2) (zI υ 6 5)) → (zI υ 6 0 ≠ 4 → yS ω = yMt (yP (yS υ) 0 a 0) υ 5 k) → (∀ ρ' : ZS, RBd υ (yS ω) ρ' (M (zI υ 14 4)) [] → PR ρ3 ρ' → zI ρ' 0 31 ≤ zI ρ3 0 31 + 4 → KpF ρ3 ρ' → Qr 1 ρ') → wpX11_mov_149 (zI ρ1 0 31) (zI ρ3 0 37) (zI ρ3 0 38) (zI ρ3 0 39) a (zsI (zsI (zsI (zsI (zsI ρ3 0 37 2) 0 38 (zI ρ1 0 38)) 0 39 (zI ρ1 0 39)) 0 41 (zI ρ1 0 41)) 0 42 (zI ρ1 0 42)) Qr := by
      intro ω ρ1 ρ3 Qr a k k2 g1 r1 u1 p13 e131 r3 u3 e33 e31 b3 ha hk hkk y4 yn kq
      have x37 : zI ρ1 0 37 = 2 := by
        have := fst ρ1 r1
        omega
      have l38 := g1.2.1.2.2.2.2.2.2.2.2.2.2.2.2.2.2.1
      have l39 := g1.2.1.2.2.2.2.2.2.2.2.2.2.2.2.2.2.2.1
      have l41 := g1.2.1.2.2.2.2.2.2.2.2.2.2.2.2.2.2.2.2.1
      have l42 := g1.2.1.2.2.2.2.2.2.2.2.2.2.2.2.2.2.2.2.2.1
      have m37 := b3.1.2.1.2.2.2.2.2.2.2.2.2.2.2.2.2.1
      have m38 := b3.1.2.1.2.2.2.2.2.2.2.2.2.2.2.2.2.2.1
      have m39 := b3.1.2.1.2.2.2.2.2.2.2.2.2.2.2.2.2.2.2.1
      have m31 := b3.1.2.1.2.2.2.2.2.2.2.2.1
      have b4 : RBd υ (yS υ) (zsI (zsI (zsI (zsI (zsI ρ3 0 37 2) 0 38 (zI ρ1 0 38)) 0 39 (zI ρ1 0 39)) 0 41 (zI ρ1 0 41)) 0 42 (zI ρ1 0 42)) (M (zI υ 14 4)) (nm (zI υ 5 3) ++ nm (zI υ 6 3)) := by
        rw [ob_I u5 3]
        exact ⟨GG_ops b3.1 (by decide) l38 l39 l41 l42, b3.2⟩
      have kf0 : KpF ρ3 (zsI (zsI (zsI (zsI (zsI ρ3 0 37 2) 0 38 (zI ρ1 0 38)) 0 39 (zI ρ1 0 39)) 0 41 (zI ρ1 0 41)) 0 42 (zI ρ1 0 42)) := (KpF.op (by decide)).tr ((KpF.op (by decide)).tr ((KpF.op (by decide)).tr ((KpF.op (by decide)).tr (KpF.op (by decide)))))
      unfold wpX11_mov_149
      refine r_octS b4 e33 (show zI ρ3 0 31 + 1 ≤ 2 * zI ρ3 0 6 + 8 by omega) (by omega) (fun ρ5 b5 e5 x5 => ?_)
      have x5' : zI ρ5 0 31 = zI ρ3 0 31 + 1 := x5
      have j6 : zI ρ5 0 6 = zI ρ3 0 6 := e5.s6
      have fm : wpX11_mov_165 (zI ρ1 0 31) (zI ρ3 0 37) (zI ρ3 0 38) (zI ρ3 0 39) k ρ5 Qr := by
        unfold wpX11_mov_165
        refine r_emitForm (g := 5) b5 (e5.or (r1.k u5 x37.symm rfl rfl rfl rfl)) u5i.1 hk (by omega) (e5.ops (u1.pr (p13.tr PR_ops) x37.symm rfl)) (e5.s33 e33) (by omega) (fun ρ6 b6 e6 => ?_)
        have i6 := e6.s6
        have i31 := e6.2.2.2.2
        have i31' := e6.2.2.2.1
        have z6 := b6.1.2.1.2.1
        have z2 := b6.1.2.1.1
        have kf7 : KpF ρ6 (zsI (zsI (zsI ρ6 0 37 (zI ρ3 0 37)) 0 38 (zI ρ3 0 38)) 0 39 (zI ρ3 0 39)) := (KpF.op (by decide)).tr ((KpF.op (by decide)).tr (KpF.op (by decide)))
        have p67 : PR ρ6 (zsI (zsI (zsI ρ6 0 37 (zI ρ3 0 37)) 0 38 (zI ρ3 0 38)) 0 39 (zI ρ3 0 39)) := (PR_op (by decide)).tr ((PR_op (by decide)).tr (PR_op (by decide)))
        have g7 : GG (zsI (zsI (zsI ρ6 0 37 (zI ρ3 0 37)) 0 38 (zI ρ3 0 38)) 0 39 (zI ρ3 0 39)) := GG_39 (GG_38 (GG_37 b6.1 m37) m38) m39
        have en : ∀ ρ8 : ZS, zI ρ6 0 31 ≤ zI ρ8 0 31 → zI ρ8 0 31 ≤ 20000000 → Qr 1 ρ8 → wpX11_mov_196 (zI ρ1 0 31) ρ8 Qr := by
          intro ρ8 a b c
          unfold wpX11_mov_196 wpX11_mov_209
          exact ⟨by omega, by omega, fun q => by omega, fun _ => ⟨by decide, c⟩⟩
        refine ⟨by omega, fun le => ?_, fun gt => ?_⟩
        · rcases hkk with ⟨q1, q2, q3⟩ | ⟨q1, q2, q3, q4⟩
          · exfalso
            rcases r3 with ⟨q, -⟩ | ⟨q, -⟩ | ⟨q, -⟩ | ⟨-, ⟨-, q, -⟩ | ⟨-, -, -, ⟨-, q⟩ | ⟨-, q⟩⟩⟩ <;> omega
          · refine en _ (show zI ρ6 0 31 ≤ zI ρ6 0 31 by omega) (show zI ρ6 0 31 ≤ 20000000 by omega) (kq _ ?_ (PR_ops.tr (e5.2.1.tr (e6.2.1.tr p67))) (show zI ρ6 0 31 ≤ zI ρ3 0 31 + 4 by omega) (kf0.tr (e5.kf.tr (e6.kf.tr kf7))))
            rw [q4] at b6
            rw [yn q3]
            exact ⟨g7, b6.2⟩
        · rcases hkk with ⟨q1, q2, q3⟩ | ⟨q1, q2, q3, q4⟩
          · have b7 : RBd υ (yMt (yP (yS υ) 0 a 0) υ 5 k) (zsI (zsI (zsI ρ6 0 37 (zI ρ3 0 37)) 0 38 (zI ρ3 0 38)) 0 39 (zI ρ3 0 39)) (M (zI υ 14 4)) (nm (zI υ 6 3) ++ []) := by
              rw [List.append_nil]
              exact ⟨g7, b6.2⟩
            have r7 : OR υ 6 (zsI (zsI (zsI ρ6 0 37 (zI ρ3 0 37)) 0 38 (zI ρ3 0 38)) 0 39 (zI ρ3 0 39)) := by
              rcases r3 with ⟨q, -⟩ | ⟨q, -⟩ | ⟨q, -⟩ | q
              · omega
              · omega
              · omega
              · exact Or.inr (Or.inr (Or.inr q))
            refine r_emitValD (g := 6) b7 q3 r7 (u3.pr (PR_ops.tr (e5.2.1.tr (e6.2.1.tr p67))) rfl rfl) (e6.s33 (e5.s33 e33)) (show zI ρ6 0 31 + 1 ≤ 2 * zI ρ6 0 6 + 8 by omega) (fun ρ8 b8 e8 => ?_)
            have v31 : zI ρ8 0 31 ≤ zI ρ6 0 31 + 1 := e8.2.2.2.2
            have v31' : zI ρ6 0 31 ≤ zI ρ8 0 31 := e8.2.2.2.1
            refine en ρ8 v31' (by omega) (kq ρ8 ?_ (PR_ops.tr (e5.2.1.tr (e6.2.1.tr (p67.tr e8.2.1)))) (by omega) (kf0.tr (e5.kf.tr (e6.kf.tr (kf7.tr e8.kf)))))
            rw [y4 q3]
            exact b8
          · omega
      refine ⟨by omega, fun q => ?_, fun q => ?_⟩
      · rcases hkk with ⟨q1, q2, q3⟩ | ⟨q1, q2, q3, q4⟩
        · rw [q2] at fm; exact fm
        · omega
      · rcases hkk with ⟨q1, q2, q3⟩ | ⟨q1, q2, q3, q4⟩
        · omega
        · rw [q2] at fm; exact fm
    -- what the second operand is
    have snd : ∀ ρ3 : ZS, OR υ 6 ρ3 → (zI υ 6 0 = 1 ∧ zI ρ3 0 37 = 0 ∧ zI ρ3 0 38 = zI υ 6 1 ∧ 0 ≤ zI υ 6 1 ∧ zI υ 6 1 < 8 ∧ zI υ 6 3 = -1) ∨ (zI υ 6 0 = 8 ∧ zI ρ3 0 37 = 1 ∧ zI ρ3 0 38 = zI υ 6 1 ∧ 0 ≤ zI υ 6 1 ∧ zI υ 6 1 < 4 ∧ zI υ 6 3 = -1) ∨ (zI υ 6 0 = 2 ∧ zI ρ3 0 37 = 2) ∨ (zI υ 6 0 = 4 ∧ 3 ≤ zI ρ3 0 37 ∧ zI ρ3 0 37 ≤ 5) := by
      intro ρ3 r
      rcases r with q | q | ⟨q, q', -⟩ | ⟨q, ⟨-, q', -⟩ | ⟨-, -, -, ⟨-, q'⟩ | ⟨-, q'⟩⟩⟩
      · exact Or.inl q
      · exact Or.inr (Or.inl q)
      · exact Or.inr (Or.inr (Or.inl ⟨q, q'.1⟩))
      · exact Or.inr (Or.inr (Or.inr ⟨q, by omega, by omega⟩))
      · exact Or.inr (Or.inr (Or.inr ⟨q, by omega, by omega⟩))
      · exact Or.inr (Or.inr (Or.inr ⟨q, by omega, by omega⟩))
    -- a form whose memory is the second operand
    have form6 : ∀ (ω ρ1 ρ3 : ZS) (Qr : Int → ZS → Prop) (a : Int) (K : ZS → Prop), zI τ 5 0 ≠ 2 → (zI υ 6 0 = 1 ∨ zI υ 6 0 = 2) → OR τ 5 ρ1 → OR υ 6 ρ3 → OpU ρ3 → zI ρ3 0 33 = 1 → zI ρ3 0 31 + 4 ≤ 2 * zI ρ3 0 6 → RBd υ (yS υ) ρ3 (M (zI υ 14 4)) (nm (zI τ 5 3) ++ nm (zI υ 6 3)) → (0 ≤ a ∧ a ≤ 255) → yS ω = yMt (yP (yS υ) 0 a 0) υ 6 (zI υ 5 1) → (∀ ρ' : ZS, RBd υ (yS ω) ρ' (M (zI υ 14 4)) [] → PR ρ3 ρ' → zI ρ' 0 31 ≤ zI ρ3 0 31 + 4 → KpF ρ3 ρ' → Qr 1 ρ') → wpX11_octet a ρ3 (fun σ11 => wpX11_emitForm (zI ρ1 0 38) σ11 (fun σ13 => (0 ≤ (1 : Int) ∧ (1 : Int) ≤ 1) ∧ Qr 1 σ13)) := by
      intro ω ρ1 ρ3 Qr a K n2 z6 r1 r3 u3 e33 e31 b3 ha wy kq
      have x := fst ρ1 r1
      have x5 : zI τ 5 3 = -1 := by omega
      have b3' : RBd υ (yS υ) ρ3 (M (zI υ 14 4)) (nm (zI υ 6 3) ++ []) := by
        rw [x5] at b3
        rw [List.append_nil]; exact b3
      refine r_octD b3' e33 (by omega) (by omega) (fun ρ5 b5 e5 => ?_)
      have j6 := e5.s6
      have j31 := e5.2.2.2.2
      refine r_emitForm (g := 6) b5 (e5.or r3) ui.1 (by omega) z6 (e5.ops u3) (e5.s33 e33) (by omega) (fun ρ6 b6 e6 => ⟨by decide, kq ρ6 ?_ (e5.2.1.tr e6.2.1) (by have := e6.2.2.2.2; omega) (e5.kf.tr e6.kf)⟩)
      rw [wy, t1, show zI τ 5 1 = zI ρ1 0 38 by omega]
      exact b6
    refine ⟨by omega, fun n8 => ⟨by omega, fun m8 => ⟨fun m4 => ⟨fun n1 => ?_, fun y1 => ?_⟩, fun m4 => ⟨fun n1 => ?_, fun y1 => ?_⟩⟩, fun m8 => ?_⟩, fun y8 => ?_⟩
    · -- memory, register
      have y2 : zI τ 5 0 = 2 := by omega
      have z6 : zI υ 6 0 = 1 := by omega
      refine x_addWithM (by decide) ug.1 uo u5i (by omega) (fun ω wp wk wz wz' wy => fin ω wp wk (by rw [if_neg n1] at wz'; omega) ?_)
      rw [c2 y2]
      intro ρ1 ρ3 Qr g1 r1 u1 p13 e131 r3 u3 e33 e31 b3 kq
      have s := snd ρ3 r3
      unfold mC2
      exact ⟨by omega, fun q => by omega, fun _ => b149 ω ρ1 ρ3 Qr 137 (zI υ 6 1) y2 g1 r1 u1 p13 e131 r3 u3 e33 e31 b3 (by decide) (by omega) (Or.inr ⟨by omega, by omega, by omega, by omega⟩) (fun q => by omega) (fun _ => wy) kq⟩
    · -- register, register or memory
      have y1' : zI τ 5 0 = 1 := by omega
      have z6 : zI υ 6 0 = 1 ∨ zI υ 6 0 = 2 := by omega
      refine x_addWithM (by decide) ug.1 uo ui (by omega) (fun ω wp wk wz wz' wy => fin ω wp wk (by split at wz' <;> omega) ?_)
      rw [cT (by omega)]
      intro ρ1 ρ3 Qr g1 r1 u1 p13 e131 r3 u3 e33 e31 b3 kq
      have s := snd ρ3 r3
      have f := fst ρ1 r1
      unfold mCT
      exact ⟨by omega, fun _ => ⟨by omega, fun _ => ⟨fun _ => form6 ω ρ1 ρ3 Qr 139 (fun _ => True) (by omega) z6 r1 r3 u3 e33 e31 b3 (by decide) wy kq, fun q => by omega⟩, fun q => by omega⟩, fun q => by omega⟩
    · -- memory, a value
      have y2 : zI τ 5 0 = 2 := by omega
      refine x_addWithM (by decide) ug.1 uo u5i (by omega) (fun ω wp wk wz wz' wy => ?_)
      rw [if_neg n1] at wz'
      have w6 : ob ω 6 = ob υ 6 := wk 6 (by decide)
      refine x_addValue (by decide) wp ((wk.I (by decide) 5).trans uo) (ui.k (wk 11 (by decide)) w6) (by omega) (fun ω2 wp2 wk2 wz2 wy2 => fin ω2 wp2 (wk.tr wk2) (by omega) ?_)
      rw [c2 y2]
      intro ρ1 ρ3 Qr g1 r1 u1 p13 e131 r3 u3 e33 e31 b3 kq
      have s := snd ρ3 r3
      unfold mC2
      rw [wy, ob_I w6 2, ob_I w6 3, ob_I w6 5] at wy2
      exact ⟨by omega, fun _ => ⟨fun _ => b149 ω2 ρ1 ρ3 Qr 199 0 y2 g1 r1 u1 p13 e131 r3 u3 e33 e31 b3 (by decide) (by decide) (Or.inl ⟨by omega, rfl, m4⟩) (fun _ => wy2) (fun q => absurd m4 q) kq, fun q => by omega⟩, fun q => by omega⟩
    · -- register, a value
      have y1' : zI τ 5 0 = 1 := by omega
      refine x_addByte ug.1 uo (by omega) (fun ω wp wk wz wy => ?_)
      have w6 : ob ω 6 = ob υ 6 := wk 6 (by decide)
      refine x_addValue (by decide) wp ((wk.I (by decide) 5).trans uo) (ui.k (wk 11 (by decide)) w6) (by omega) (fun ω2 wp2 wk2 wz2 wy2 => fin ω2 wp2 (wk.tr wk2) (by omega) ?_)
      rw [cT (by omega)]
      intro ρ1 ρ3 Qr g1 r1 u1 p13 e131 r3 u3 e33 e31 b3 kq
      have s := snd ρ3 r3
      have f := fst ρ1 r1
      unfold mCT
      rw [wy, ob_I w6 2, ob_I w6 3, ob_I w6 5] at wy2
      refine ⟨by omega, fun _ => ⟨by omega, fun _ => ⟨fun q => by omega, fun _ => ?_⟩, fun q => by omega⟩, fun q => by omega⟩
      have b3' : RBd υ (yS υ) ρ3 (M (zI υ 14 4)) (nm (zI υ 6 3) ++ []) := by
        rw [show zI τ 5 3 = -1 by omega] at b3
        rw [List.append_nil]; exact b3
      refine r_octD b3' e33 (by omega) (by omega) (fun ρ5 b5 e5 => ?_)
      have j6 := e5.s6
      have j31 := e5.2.2.2.2
      refine r_emitValD (g := 6) b5 m4 (e5.or r3) (e5.ops u3) (e5.s33 e33) (by omega) (fun ρ8 b8 e8 => ⟨by decide, kq ρ8 ?_ (e5.2.1.tr e8.2.1) (by have := e8.2.2.2.2; omega) (e5.kf.tr e8.kf)⟩)
      rw [wy2, show (184 + zI υ 5 1) % 256 = 184 + zI ρ1 0 38 by omega]
      exact b8
    · -- a segment register from which it is moved
      refine x_addWithM (by decide) ug.1 uo u5i (by omega) (fun ω wp wk wz wz' wy => fin ω wp wk (by split at wz' <;> omega) ?_)
      by_cases y2 : zI τ 5 0 = 2
      · rw [c2 y2]
        intro ρ1 ρ3 Qr g1 r1 u1 p13 e131 r3 u3 e33 e31 b3 kq
        have s := snd ρ3 r3
        unfold mC2
        exact ⟨by omega, fun _ => ⟨fun q => by omega, fun _ => b149 ω ρ1 ρ3 Qr 140 (zI υ 6 1) y2 g1 r1 u1 p13 e131 r3 u3 e33 e31 b3 (by decide) (by omega) (Or.inr ⟨by omega, by omega, by omega, by omega⟩) (fun q => by omega) (fun _ => wy) kq⟩, fun q => by omega⟩
      · rw [cT y2]
        intro ρ1 ρ3 Qr g1 r1 u1 p13 e131 r3 u3 e33 e31 b3 kq
        have s := snd ρ3 r3
        have f := fst ρ1 r1
        unfold mCT
        refine ⟨by omega, fun _ => ⟨by omega, fun q => by omega, fun _ => ?_⟩, fun q => by omega⟩
        have b3' : RBd υ (yS υ) ρ3 (M (zI υ 14 4)) [] := by
          rw [show zI τ 5 3 = -1 by omega, show zI υ 6 3 = -1 by omega] at b3
          exact b3
        refine r_octD b3' e33 (by omega) (by omega) (fun ρ5 b5 e5 => ?_)
        have j6 := e5.s6
        have j31 := e5.2.2.2.2
        have j38 : zI ρ5 0 38 = zI ρ3 0 38 := e5.2.2.1.1 38 (by decide)
        refine r_octD b5 (e5.s33 e33) (by omega) (by omega) (fun ρ8 b8 e8 => ⟨by decide, kq ρ8 ?_ (e5.2.1.tr e8.2.1) (by have := e8.2.2.2.2; omega) (e5.kf.tr e8.kf)⟩)
        rw [wy]
        unfold yMt
        rw [if_pos (show zI υ 5 0 = 1 by omega), show (192 + 8 * zI υ 6 1 + zI υ 5 1) % 256 = 192 + 8 * zI ρ5 0 38 + zI ρ1 0 38 by omega]
        exact b8
    · -- a segment register to which it is moved
      have z6 : zI υ 6 0 = 1 ∨ zI υ 6 0 = 2 := by omega
      refine x_addWithM (by decide) ug.1 uo ui (by omega) (fun ω wp wk wz wz' wy => fin ω wp wk (by split at wz' <;> omega) ?_)
      rw [cT (by omega)]
      intro ρ1 ρ3 Qr g1 r1 u1 p13 e131 r3 u3 e33 e31 b3 kq
      have s := snd ρ3 r3
      have f := fst ρ1 r1
      unfold mCT
      exact ⟨by omega, fun q => by omega, fun _ => form6 ω ρ1 ρ3 Qr 142 (fun _ => True) (by omega) z6 r1 r3 u3 e33 e31 b3 (by decide) wy kq⟩
  -- the reference's roads
  have roadT : ∀ s : Int, ((zI τ 5 0 = 1 ∧ s = 27) ∨ (zI τ 5 0 = 8 ∧ s = 9)) → ∀ (ρ : ZS) (Qr : Int → ZS → Prop), SY h L E σ (zI σ 14 4) ρ → RB σ ρ (M (zI σ 14 4)) [] → Fresh ρ → (∀ ρ1 ρ2 : ZS, OR τ 5 ρ1 → Opd ρ 1 ρ1 → PR ρ1 ρ2 → zI ρ2 0 31 = zI ρ1 0 31 → zI ρ1 0 6 + 1 ≤ zI ρ2 0 6 → SY h L E (zsI τ 14 4 (zI τ 14 4 + 1)) (zI (zsI τ 14 4 (zI τ 14 4 + 1)) 14 4) ρ2 → RB (zsI τ 14 4 (zI τ 14 4 + 1)) ρ2 (M (zI (zsI τ 14 4 (zI τ 14 4 + 1)) 14 4)) (nm (zI τ 5 3)) → Fresh ρ2 → ∀ K : Int → ZS → Prop, (∀ ρ3 : ZS, mCT ρ1 ρ3 Qr → K 1 ρ3) → (∀ ρ3 : ZS, Qr 0 ρ3 → K 0 ρ3) → wpX11_operand s ρ2 K) → wpX11_mov ρ Qr := by
    intro s hs ρ Qr rS rB rF k
    unfold wpX11_mov
    refine tr ρ [] _ rS rB rF (fun ρ1 s1 b1 d1 r1 => ?_)
    have f := fst ρ1 r1
    refine ⟨by decide, fun _ => ⟨by omega, fun q => by omega, fun _ => ?_⟩, fun q => absurd q (by decide)⟩
    unfold wpX11_movTo
    refine r_take hC1 i0 i1 s1 b1 (by unfold cS; omega) (fun _ ρ2 s2 b2 f2 g2 p2' c1 c2 => ?_) (fun ne => absurd e44 ne)
    have kk2 := k ρ1 ρ2 r1 d1 p2' (g2.1 31 (by decide)) c1 (by rw [qa]; exact s2.k q11 q12) (by rw [qa, hC1.m1 i0 i1 (by omega)]; exact b2.k q11 q13 qo) f2
    have f22 : wpX11_movTo_22 (zI ρ1 0 37) (zI ρ1 0 38) s ρ2 (fun x32 σ33 => (0 ≤ x32 ∧ x32 ≤ 1) ∧ Qr x32 σ33) := by
      unfold wpX11_movTo_22 wpX11_movTo_121 wpX11_movTo_28
      exact kk2 _ (fun ρ3 c => ⟨by decide, fun _ => c, fun q => absurd q (by decide)⟩) (fun ρ3 c => ⟨by decide, fun q => absurd rfl q, fun _ => ⟨by decide, c⟩⟩)
    refine ⟨by decide, fun q => absurd q (by decide), fun _ => ⟨by omega, fun q => ?_, fun q => ?_⟩⟩
    · rw [show (27 : Int) = s by omega]; exact f22
    · rw [show (9 : Int) = s by omega]; exact f22
  have road2 : zI τ 5 0 = 2 → ∀ (ρ : ZS) (Qr : Int → ZS → Prop), SY h L E σ (zI σ 14 4) ρ → RB σ ρ (M (zI σ 14 4)) [] → Fresh ρ → (∀ ρ1 ρ2 : ZS, OR τ 5 ρ1 → Opd ρ 1 ρ1 → PR ρ1 ρ2 → zI ρ2 0 31 = zI ρ1 0 31 → zI ρ1 0 6 + 1 ≤ zI ρ2 0 6 → SY h L E (zsI τ 14 4 (zI τ 14 4 + 1)) (zI (zsI τ 14 4 (zI τ 14 4 + 1)) 14 4) ρ2 → RB (zsI τ 14 4 (zI τ 14 4 + 1)) ρ2 (M (zI (zsI τ 14 4 (zI τ 14 4 + 1)) 14 4)) (nm (zI τ 5 3)) → Fresh ρ2 → ∀ K : Int → ZS → Prop, (∀ ρ3 : ZS, mC2 ρ1 ρ3 Qr → K 1 ρ3) → (∀ ρ3 : ZS, Qr 0 ρ3 → K 0 ρ3) → wpX11_operand 19 ρ2 K) → wpX11_mov ρ Qr := by
    intro hs ρ Qr rS rB rF k
    unfold wpX11_mov wpX11_mov_74
    refine tr ρ [] _ rS rB rF (fun ρ1 s1 b1 d1 r1 => ?_)
    have f := fst ρ1 r1
    refine ⟨by decide, fun _ => ⟨by omega, fun _ => ?_, fun q => by omega⟩, fun q => absurd q (by decide)⟩
    refine r_take hC1 i0 i1 s1 b1 (by unfold cS; omega) (fun _ ρ2 s2 b2 f2 g2 p2' c1 c2 => ?_) (fun ne => absurd e44 ne)
    have kk2 := k ρ1 ρ2 r1 d1 p2' (g2.1 31 (by decide)) c1 (by rw [qa]; exact s2.k q11 q12) (by rw [qa, hC1.m1 i0 i1 (by omega)]; exact b2.k q11 q13 qo) f2
    exact ⟨by decide, fun q => absurd q (by decide), fun _ => kk2 _ (fun ρ3 c => ⟨by decide, fun _ => c, fun q => absurd q (by decide)⟩) (fun ρ3 c => ⟨by decide, fun q => absurd rfl q, fun _ => c⟩)⟩
  rw [show zI (zsI τ 14 4 (zI τ 14 4 + 1)) 5 0 = zI τ 5 0 from ob_I q5 0]
  refine ⟨by omega, fun n1 => ⟨fun n8 => f59 29 19 mC2 (by unfold AB; decide) (fun q => absurd q n8) (fun _ => by decide) (fun _ => rfl) (fun q => by omega) (road2 (by omega)), fun y8 => f59 3 9 mCT (by unfold AB; decide) (fun _ => by decide) (fun q => by omega) (fun q => by omega) (fun _ => rfl) (roadT 9 (Or.inr ⟨y8, rfl⟩))⟩, fun y1 => f59 (zor 29 2) 27 mCT (by unfold AB; decide) (fun q => by omega) (fun q => by omega) (fun q => by omega) (fun _ => rfl) (roadT 27 (Or.inl ⟨y1, rfl⟩))⟩
