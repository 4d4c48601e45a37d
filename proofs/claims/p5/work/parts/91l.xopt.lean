/-! X: the operand as a whole -/
/-- which operand it is, whether it may stand there, how far it reaches -/
def OKo (a : Int) (σ : ZS) (g : Int) (τ : ZS) : Prop := (zI τ g 0 = 1 ∧ ¬ a % 2 = 0 ∧ zA σ 12 2 (zI σ 14 4) + 2 ≤ zA σ 12 2 (zI τ 14 4)) ∨ (zI τ g 0 = 8 ∧ (¬ zand a 8 = 0 ∨ ¬ zand a 16 = 0) ∧ zA σ 12 2 (zI σ 14 4) + 2 ≤ zA σ 12 2 (zI τ 14 4)) ∨ (zI τ g 0 = 2 ∧ ¬ zand a 2 = 0 ∧ zA σ 12 2 (zI σ 14 4) + 3 ≤ zA σ 12 2 (zI τ 14 4)) ∨ (zI τ g 0 = 4 ∧ ¬ zand a 4 = 0 ∧ zA σ 12 2 (zI σ 14 4) + 1 ≤ zA σ 12 2 (zI τ 14 4))
/-- the reference fails where no value stands -/
theorem r_no114 {h : Int → Int} {L b : Int} {E M : Int → Int} {σ ρ : ZS} {p0 : List Int} {Qr : Int → ZS → Prop} (hC : CT h L E M σ) (hP : PS σ) (hS : SY h L E σ (zI σ 14 4) ρ) (hB : RB σ ρ (M (zI σ 14 4)) p0) (hF : Fresh ρ) (hv : zand b 16 = 0 ∨ VFl σ) (h0 : ∀ ρ' : ZS, GG ρ' → PR ρ ρ' → Qr 0 ρ') : wpX11_operand_114 b ρ Qr := by
  have i0 := hP.2.2.1.1
  have i1 : zI σ 14 4 < zI σ 12 3 := by have := hP.2.2.1; omega
  unfold wpX11_operand_114
  refine ⟨zand_bd _ _, fun n => ?_, fun _ => s_fault ⟨by decide, h0 _ (GG_34 hB.1) PR_fault⟩⟩
  rcases hv with hv | hv
  · exact absurd hv n
  · exact r_value hC i0 i1 hS hB hF (fun t => absurd t hv.1) (fun t => absurd t hv.2.1) (fun t t' => absurd ⟨t, t'⟩ hv.2.2) (fun _ ρ' a c => ⟨by decide, h0 ρ' a c⟩)
/-- what goes by -/
theorem r_to114 {h : Int → Int} {L i b : Int} {E : Int → Int} {σ ρ : ZS} {Qr : Int → ZS → Prop} (hG : GG ρ) (hS : SY h L E σ i ρ) (n4 : ¬ (zA σ 12 0 i = 4 ∧ ¬ b % 2 = 0)) (n5 : ¬ (zA σ 12 0 i = 5 ∧ (¬ zand b 2 = 0 ∨ (¬ zand b 4 = 0 ∧ ¬ zA σ 12 1 i = 1)))) (n91 : ¬ (zA σ 12 0 i = 91 ∧ ¬ zand b 8 = 0)) (k : wpX11_operand_114 b ρ Qr) : wpX11_operand b ρ Qr := by
  obtain ⟨-, -, -, -, T4, -, T5, T5v, -⟩ := hS.2.2.2.2.f
  have S91 := hS.2.2.2.2.sg (a := 91) (by unfold cS; omega)
  have l7 := hG.2.1.2.2.1
  have l9 := hG.2.1.2.2.2.1
  have f89 : wpX11_operand_89 b ρ Qr := by
    unfold wpX11_operand_89
    exact ⟨by omega, fun _ => k, fun q => ⟨zand_bd _ _, fun _ => k, fun z => absurd ⟨S91.mp q, z⟩ n91⟩⟩
  have f35 : wpX11_operand_35 b ρ Qr := by
    unfold wpX11_operand_35
    refine r_isWord hG.2.1 (by decide) (fun q => ⟨by decide, fun q => absurd q (by decide), fun _ => ?_⟩) (fun _ => ⟨by decide, fun _ => f89, fun q => absurd rfl q⟩)
    have t5 := T5.mpr ⟨q.1, by omega, by omega⟩
    refine ⟨zand_bd _ _, fun z => absurd ⟨t5, Or.inl z⟩ n5, fun _ => ⟨zand_bd _ _, fun _ => f89, fun z => ⟨by omega, fun _ => f89, fun y => absurd ⟨t5, Or.inr ⟨z, fun w => y (by rw [T5v t5, w]; rfl)⟩⟩ n5⟩⟩⟩
  unfold wpX11_operand
  refine r_isWord hG.2.1 (by decide) (fun q => ⟨by decide, fun q => absurd q (by decide), fun _ => ⟨fun _ => f35, fun z => absurd ⟨T4.mpr ⟨q.1, by omega, by omega⟩, z⟩ n4⟩⟩) (fun _ => ⟨by decide, fun _ => f35, fun q => absurd rfl q⟩)
theorem t_operand {h : Int → Int} {L g a b : Int} {E M : Int → Int} {σ : ZS} {Q : Int → ZS → Prop} (hg : 5 ≤ g ∧ g ≤ 6) (hP : PS σ) (hC : CT h L E M σ) (hab : AB a b)
    (h1 : ∀ τ : ZS, OG g σ τ → OPI τ g → OKo a σ g τ → (∀ (ρ : ZS) (p0 : List Int) (Qr : Int → ZS → Prop), SY h L E σ (zI σ 14 4) ρ → RB σ ρ (M (zI σ 14 4)) p0 → Fresh ρ → (∀ ρ' : ZS, SY h L E τ (zI τ 14 4) ρ' → RB τ ρ' (M (zI τ 14 4)) (p0 ++ nm (zI τ g 3)) → Opd ρ 1 ρ' → OR τ g ρ' → Qr 1 ρ') → wpX11_operand b ρ Qr) → Q 1 τ)
    (h0 : ∀ τ : ZS, OG g σ τ → (∀ (ρ : ZS) (p0 : List Int) (Qr : Int → ZS → Prop), SY h L E σ (zI σ 14 4) ρ → RB σ ρ (M (zI σ 14 4)) p0 → Fresh ρ → (∀ ρ' : ZS, GG ρ' → PR ρ ρ' → Qr 0 ρ') → wpX11_operand b ρ Qr) → Q 0 τ) : wpX8_operand g a σ Q := by
  have ht := hP.tk
  have r0 := OG.rf (g := g) hP
  obtain ⟨b1, b8, b16, b2, bc⟩ := hab
  have i0 := hP.2.2.1.1
  have i1 : zI σ 14 4 < zI σ 12 3 := by have := hP.2.2.1; omega
  -- a value
  have f143 : (zA σ 12 0 (zI σ 14 4) = 2 ∨ zA σ 12 0 (zI σ 14 4) = 3 ∨ zA σ 12 0 (zI σ 14 4) = 64) → wpX8_operand_143 g a σ Q := by
    intro tt
    have go : ∀ (ρ : ZS) (Qr : Int → ZS → Prop), GG ρ → SY h L E σ (zI σ 14 4) ρ → wpX11_operand_114 b ρ Qr → wpX11_operand b ρ Qr := fun ρ Qr gg rS k => r_to114 gg rS (by omega) (by omega) (by omega) k
    unfold wpX8_operand_143 wpX8_operand_161 wpX8_operand_162
    refine ⟨zand_bd _ _, fun z => ⟨by decide, h0 _ r0 (fun ρ p0 Qr rS rB rF rQ => go ρ Qr rB.1 rS (r_no114 hC hP rS rB rF (Or.inl (b16.mp z)) rQ))⟩, fun z => x_plainValue hg hP (fun τ og oi vr => ⟨by decide, fun q => absurd q (by decide), fun _ => ⟨by decide, h1 τ og oi (Or.inr (Or.inr (Or.inr ⟨vr.1, z, ?_⟩))) (fun ρ p0 Qr rS rB rF rQ => go ρ Qr rB.1 rS ?_)⟩⟩) (fun vf τ og => ⟨by decide, fun _ => ⟨by decide, h0 τ og (fun ρ p0 Qr rS rB rF rQ => go ρ Qr rB.1 rS (r_no114 hC hP rS rB rF (Or.inr vf) rQ))⟩, fun q => absurd rfl q⟩)⟩
    · rcases vr.2 with ⟨t, e, -⟩ | ⟨t, e, -⟩ | ⟨t, t', e, -⟩
      · rw [e]; exact (hC.pl i0 i1 (by omega)).1
      · rw [e]; exact (hC.pl i0 i1 (by omega)).1
      · have n := hC.on i0 i1 (by omega)
        have p1 := (hC.pl i0 i1 (by omega)).1
        have p2 := (hC.pl (i := zI σ 14 4 + 1) (by omega) n (by omega)).1
        rw [e]; omega
    · have lv := og.lv hg
      have hN := hC.1.1.1.1
      unfold wpX11_operand_114
      refine ⟨zand_bd _ _, fun _ => ?_, fun q => absurd (b16.mpr q) z⟩
      refine r_value hC i0 i1 rS rB rF (fun t ρ' s1 s2 s3 s4 s5 => ⟨by decide, ?_⟩) (fun t ρ' s1 s2 s3 s4 s5 => ⟨by decide, ?_⟩) (fun t t' ρ' s1 s2 s3 s4 s5 => ⟨by decide, ?_⟩) (fun vf ρ' s1 s2 => ?_)
      · rcases vr.2 with ⟨-, e, e3, e2⟩ | ⟨t', -⟩ | ⟨t', -⟩
        · refine rQ ρ' (by rw [e]; exact s1.k lv.1 lv.2.1) ?_ s3 (Or.inr (Or.inr (Or.inr ⟨vr.1, Or.inl ⟨e3, s4, by rw [e2]; exact s5⟩⟩)))
          rw [e, e3, show nm (-1) = [] from rfl, List.append_nil]
          exact s2.k lv.1 lv.2.2.1 lv.2.2.2
        · omega
        · omega
      · rcases vr.2 with ⟨t', -⟩ | ⟨-, e, e3, e5, e2⟩ | ⟨t', -⟩
        · omega
        · have v0 := ht.2.1.1
          refine rQ ρ' (by rw [e]; exact s1.k lv.1 lv.2.1) ?_ s3 (Or.inr (Or.inr (Or.inr ⟨vr.1, Or.inr ⟨by omega, e2, by rw [e3]; exact s5, Or.inl ⟨e5, s4⟩⟩⟩)))
          rw [e, e3, show nm (zA σ 12 1 (zI σ 14 4)) = [zA σ 12 1 (zI σ 14 4)] from if_pos v0]
          exact s2.k lv.1 lv.2.2.1 lv.2.2.2
        · omega
      · rcases vr.2 with ⟨t2, -⟩ | ⟨t2, -⟩ | ⟨-, -, e, e3, e5, e2⟩
        · omega
        · omega
        · have n := hC.on i0 i1 (by omega)
          have v0 := (hC.1.1.2.2.2.2 (zI σ 14 4 + 1) (by omega) n).2.1.1
          refine rQ ρ' (by rw [e]; exact s1.k lv.1 lv.2.1) ?_ s3 (Or.inr (Or.inr (Or.inr ⟨vr.1, Or.inr ⟨by omega, e2, by rw [e3]; exact s5, Or.inr ⟨e5, s4⟩⟩⟩)))
          rw [e, e3, show nm (zA σ 12 1 (zI σ 14 4 + 1)) = [zA σ 12 1 (zI σ 14 4 + 1)] from if_pos v0]
          exact s2.k lv.1 lv.2.2.1 lv.2.2.2
      · exfalso
        rcases vr.2 with ⟨t, -⟩ | ⟨t, -⟩ | ⟨t, t', -⟩
        · exact vf.1 t
        · exact vf.2.1 t
        · exact vf.2.2 ⟨t, t'⟩
  -- a register, or a segment register
  have reg : ∀ (k c : Int) (τ : ZS), ((k = 1 ∧ c = 0 ∧ zA σ 12 0 (zI σ 14 4) = 4) ∨ (k = 8 ∧ c = 1 ∧ zA σ 12 0 (zI σ 14 4) = 5)) → OG g σ τ → zI τ 14 4 = zI σ 14 4 + 1 → zI τ g 0 = k → zI τ g 1 = zA σ 12 1 (zI σ 14 4) → zI τ g 3 = -1 → ∀ (ρ : ZS) (p0 : List Int) (Qr : Int → ZS → Prop), SY h L E σ (zI σ 14 4) ρ → RB σ ρ (M (zI σ 14 4)) p0 → Fresh ρ → (∀ ρ' : ZS, SY h L E τ (zI τ 14 4) ρ' → RB τ ρ' (M (zI τ 14 4)) (p0 ++ nm (zI τ g 3)) → Opd ρ 1 ρ' → OR τ g ρ' → Qr 1 ρ') → wpX11_next (zsI (zsI ρ 0 37 c) 0 38 (zI ρ 0 9 - 8 * c)) (fun σ19 => Qr 1 σ19) := by
    intro k c τ kc og e4 ek e1 e3 ρ p0 Qr rS rB rF rQ
    have lv := og.lv hg
    have gg := rB.1
    have l9 := gg.2.1.2.2.2.1
    have bf : fr [37, 38] [] ρ (zsI (zsI ρ 0 37 c) 0 38 (zI ρ 0 9 - 8 * c)) := (fr.rf.ti (by decide)).ti (by decide)
    have bG : GG (zsI (zsI ρ 0 37 c) 0 38 (zI ρ 0 9 - 8 * c)) := GG_38 (GG_37 gg (by omega)) (by omega)
    have pr : PR ρ (zsI (zsI ρ 0 37 c) 0 38 (zI ρ 0 9 - 8 * c)) := (PR_op (by decide)).tr (PR_op (by decide))
    refine r_next hC i0 i1 (rS.fr bf (by decide) (by decide) (by decide) (by decide) (by decide) (by decide) (by decide) (by decide)) (rB.fr bG bf (by decide) (by decide) (by decide) (by decide) (by decide) (by decide) (by decide)) (by omega) (fun γ cS' cB cF cf cp c1 c2 => ?_)
    have c37 : zI γ 0 37 = c := cf.1 37 (by decide)
    have c38 : zI γ 0 38 = zI ρ 0 9 - 8 * c := cf.1 38 (by decide)
    have c31 : zI γ 0 31 = zI ρ 0 31 := cf.1 31 (by decide)
    have c6 : zI ρ 0 6 + 1 ≤ zI γ 0 6 := c1
    obtain ⟨-, -, -, -, T4, T4v, T5, T5v, -⟩ := rS.2.2.2.2.f
    refine rQ γ (by rw [e4]; exact cS'.k lv.1 lv.2.1) ?_ ⟨cB.1, pr.tr cp, c31, Or.inr rfl, fun _ => ⟨c6, ⟨fun q => by omega, fun q => by omega⟩, cF⟩⟩ ?_
    · rw [e4, e3, show nm (-1) = [] from rfl, List.append_nil, hC.m1 i0 i1 (by omega)]
      exact cB.k lv.1 lv.2.2.1 lv.2.2.2
    · rcases kc with ⟨k1, k2, t⟩ | ⟨k1, k2, t⟩
      · have u := T4.mp t
        have w := T4v t
        clear T4 T4v T5 T5v
        exact Or.inl ⟨by omega, by omega, by omega, by omega, by omega, e3⟩
      · have u := T5.mp t
        have w := T5v t
        clear T4 T4v T5 T5v
        exact Or.inr (Or.inl ⟨by omega, by omega, by omega, by omega, by omega, e3⟩)
  have f100 : ∀ s : Int, zA σ 12 0 (zI σ 14 4) = 5 → ((s = 8 ∧ ¬ zA σ 12 1 (zI σ 14 4) = 1) ∨ (s = 16 ∧ zA σ 12 1 (zI σ 14 4) = 1)) → wpX8_operand_100 g a s σ Q := by
    intro s t hs
    unfold wpX8_operand_100 wpX8_operand_121 wpX8_operand_122
    refine ⟨zand_bd _ _, fun z => ⟨by decide, h0 _ r0 (fun ρ p0 Qr rS rB rF rQ => r_to114 rB.1 rS (by omega) ?_ (by omega) (r_no114 hC hP rS rB rF (Or.inr ⟨by omega, by omega, by omega⟩) rQ))⟩, fun z => x_coded hg hP (by decide) (by omega) (fun τ og oi e4 ek e1 e3 => ⟨by decide, fun q => absurd q (by decide), fun _ => ⟨by decide, h1 τ og oi (Or.inr (Or.inl ⟨ek, ?_, ?_⟩)) (fun ρ p0 Qr rS rB rF rQ => ?_)⟩⟩)⟩
    · rcases hs with ⟨s8, v⟩ | ⟨s8, v⟩
      · rw [s8] at z
        have := b2.mp z
        intro q
        rcases q.2 with y | y
        · exact y this.1
        · exact y.1 this.2
      · rw [s8] at z
        have := bc.mp z
        intro q
        rcases q.2 with y | y
        · exact y this
        · exact y.2 v
    · rcases hs with ⟨s8, v⟩ | ⟨s8, v⟩
      · rw [s8] at z; exact Or.inl z
      · rw [s8] at z; exact Or.inr z
    · rw [e4]; exact (hC.pl i0 i1 (by omega)).2 (Or.inr (Or.inl t))
    · have k67 : wpX11_operand_67 ρ Qr := by
        unfold wpX11_operand_67
        exact reg 8 1 τ (Or.inr ⟨rfl, rfl, t⟩) og e4 ek e1 e3 ρ p0 Qr rS rB rF rQ
      obtain ⟨-, -, -, -, T4, T4v, T5, T5v, -⟩ := rS.2.2.2.2.f
      have u := T5.mp t
      have w := T5v t
      have l9 := rB.1.2.1.2.2.2.1
      clear T4 T4v T5 T5v
      unfold wpX11_operand
      refine r_isWord rB.1.2.1 (by decide) (fun q => by omega) (fun _ => ⟨by decide, fun _ => ?_, fun q => absurd rfl q⟩)
      unfold wpX11_operand_35
      refine r_isWord rB.1.2.1 (by decide) (fun _ => ⟨by decide, fun q => absurd q (by decide), fun _ => ⟨zand_bd _ _, fun _ => k67, fun y2 => ⟨zand_bd _ _, fun y4 => ?_, fun y4 => ⟨by omega, fun y9 => ?_, fun _ => k67⟩⟩⟩⟩) (fun q => by omega)
      · exfalso
        rcases hs with ⟨s8, v⟩ | ⟨s8, v⟩
        · rw [s8] at z; exact z (b2.mpr ⟨y2, y4⟩)
        · rw [s8] at z; exact z (bc.mpr y2)
      · exfalso
        rcases hs with ⟨s8, v⟩ | ⟨s8, v⟩
        · omega
        · rw [s8] at z; exact z (bc.mpr y2)
  unfold wpX8_operand wpX8_operand_83 wpX8_operand_84 wpX8_operand_141 wpX8_operand_142
  refine c_type hP ⟨by have := ht.1; omega, fun e2 => f143 (Or.inl e2), fun n2 => ⟨fun e3 => f143 (Or.inr (Or.inl e3)), fun n3 => ⟨fun e4 => ⟨fun z => ⟨by decide, h0 _ r0 (fun ρ p0 Qr rS rB rF rQ => r_to114 rB.1 rS (fun q => q.2 (b1.mp z)) (by omega) (by omega) (r_no114 hC hP rS rB rF (Or.inr ⟨by omega, by omega, by omega⟩) rQ))⟩, fun z => x_coded hg hP (by decide) (by omega) (fun τ og oi a4 ek e1 e3 => ⟨by decide, fun q => absurd q (by decide), fun _ => ⟨by decide, h1 τ og oi (Or.inl ⟨ek, z, ?_⟩) (fun ρ p0 Qr rS rB rF rQ => ?_)⟩⟩)⟩, fun n4 => ⟨fun e5 => c_value hP ⟨by have := ht.2.1; omega, fun v => f100 8 e5 (Or.inl ⟨rfl, v⟩), fun v => f100 16 e5 (Or.inr ⟨rfl, v⟩)⟩, fun n5 => ⟨fun e64 => f143 (Or.inr (Or.inr e64)), fun n64 => ⟨fun e91 => ⟨zand_bd _ _, fun z => ⟨by decide, h0 _ r0 (fun ρ p0 Qr rS rB rF rQ => r_to114 rB.1 rS (by omega) (by omega) (fun q => q.2 (b8.mp z)) (r_no114 hC hP rS rB rF (Or.inr ⟨by omega, by omega, by omega⟩) rQ))⟩, fun z => x_brackets hg hP hC (by omega) (fun τ og oi ek ea tb => ⟨by decide, fun q => absurd q (by decide), fun _ => ⟨by decide, h1 τ og oi (Or.inr (Or.inr (Or.inl ⟨ek, z, ?_⟩))) (fun ρ p0 Qr rS rB rF rQ => ?_)⟩⟩) (fun τ og tb => ⟨by decide, fun _ => ⟨by decide, h0 τ og (fun ρ p0 Qr rS rB rF rQ => ?_)⟩, fun q => absurd rfl q⟩)⟩, fun n91 => h0 _ r0 (fun ρ p0 Qr rS rB rF rQ => r_to114 rB.1 rS (by omega) (by omega) (by omega) (r_no114 hC hP rS rB rF (Or.inr ⟨n2, n3, by omega⟩) rQ))⟩⟩⟩⟩⟩⟩
  · rw [a4]; exact (hC.pl i0 i1 (by omega)).2 (Or.inl e4)
  · obtain ⟨-, -, -, -, T4, T4v, T5, T5v, -⟩ := rS.2.2.2.2.f
    have u := T4.mp e4
    clear T4 T4v T5 T5v
    unfold wpX11_operand
    refine r_isWord rB.1.2.1 (by decide) (fun _ => ⟨by decide, fun q => absurd q (by decide), fun _ => ⟨fun y => absurd (b1.mpr y) z, fun _ => ?_⟩⟩) (fun q => by omega)
    have k := reg 1 0 τ (Or.inl ⟨rfl, rfl, e4⟩) og a4 ek e1 e3 ρ p0 Qr rS rB rF rQ
    rw [show zI ρ 0 9 - 8 * 0 = zI ρ 0 9 by omega] at k
    exact k
  · have hl := og.1.2.2.1
    have es : zI τ 12 3 = zI σ 12 3 := ob_I (og.lv hg).2.1 3
    have := hC.pk i0 (zI τ 14 4 - zI σ 14 4).toNat (by omega)
    rw [show zI σ 14 4 + ((zI τ 14 4 - zI σ 14 4).toNat : Int) = zI τ 14 4 by omega] at this
    omega
  · obtain ⟨-, -, -, -, T4, T4v, T5, T5v, -⟩ := rS.2.2.2.2.f
    have S91 := (rS.2.2.2.2.sg (a := 91) (by unfold cS; omega)).mpr e91
    clear T4 T4v T5 T5v
    have l7 := rB.1.2.1.2.2.1
    unfold wpX11_operand
    refine r_isWord rB.1.2.1 (by decide) (fun q => by omega) (fun _ => ⟨by decide, fun _ => ?_, fun q => absurd rfl q⟩)
    unfold wpX11_operand_35
    refine r_isWord rB.1.2.1 (by decide) (fun q => by omega) (fun _ => ⟨by decide, fun _ => ?_, fun q => absurd rfl q⟩)
    unfold wpX11_operand_89
    refine ⟨by omega, fun q => absurd S91 q, fun _ => ⟨zand_bd _ _, fun y => absurd (b8.mpr y) z, fun _ => ?_⟩⟩
    refine r_next hC i0 i1 rS rB (by omega) (fun γ cS' cB cF cf cp c1 c2 => tb ρ γ p0 _ cS' (by rw [hC.m1 i0 i1 (by omega)]; exact cB) cF cp (cf.1 31 (by decide)) (by omega) (fun ρ' s1 s2 s3 s4 => ⟨by decide, rQ ρ' s1 s2 s3 s4⟩))
  · have S91 := (rS.2.2.2.2.sg (a := 91) (by unfold cS; omega)).mpr e91
    have l7 := rB.1.2.1.2.2.1
    unfold wpX11_operand
    refine r_isWord rB.1.2.1 (by decide) (fun q => by omega) (fun _ => ⟨by decide, fun _ => ?_, fun q => absurd rfl q⟩)
    unfold wpX11_operand_35
    refine r_isWord rB.1.2.1 (by decide) (fun q => by omega) (fun _ => ⟨by decide, fun _ => ?_, fun q => absurd rfl q⟩)
    unfold wpX11_operand_89
    refine ⟨by omega, fun q => absurd S91 q, fun _ => ⟨zand_bd _ _, fun y => absurd (b8.mpr y) z, fun _ => ?_⟩⟩
    refine r_next hC i0 i1 rS rB (by omega) (fun γ cS' cB cF cf cp c1 c2 => tb ρ γ p0 _ cS' (by rw [hC.m1 i0 i1 (by omega)]; exact cB) cF cp (cf.1 31 (by decide)) (by omega) (fun ρ' s1 s2 => ⟨by decide, rQ ρ' s1 s2⟩))
