/-! X: a value alone, on both sides -/
theorem x_opVal {g : Int} {σ : ZS} {Q : Int → ZS → Prop} (hg : 5 ≤ g ∧ g ≤ 6) (hP : PS σ) (h1 : ∀ τ : ZS, OG g σ τ → OPI τ g → VRs σ g τ → Q 1 τ) (h0 : VFl σ → ∀ τ : ZS, OG g σ τ → Q 0 τ) : wpX8_operand g 4 σ Q := by
  have ht := hP.tk
  have r0 := OG.rf (g := g) hP
  have f143 : wpX8_operand_143 g 4 σ Q := by
    unfold wpX8_operand_143 wpX8_operand_161 wpX8_operand_162
    exact ⟨zand_bd _ _, fun z => absurd z (by decide), fun _ => x_plainValue hg hP (fun τ og oi vr => ⟨by decide, fun q => absurd q (by decide), fun _ => ⟨by decide, h1 τ og oi vr⟩⟩) (fun vf τ og => ⟨by decide, fun _ => ⟨by decide, h0 vf τ og⟩, fun q => absurd rfl q⟩)⟩
  have f100 : ∀ s : Int, (s = 8 ∨ s = 16) → zA σ 12 0 (zI σ 14 4) = 5 → wpX8_operand_100 g 4 s σ Q := by
    intro s hs t
    unfold wpX8_operand_100 wpX8_operand_121 wpX8_operand_122
    refine ⟨zand_bd _ _, fun _ => ⟨by decide, h0 ⟨by omega, by omega, by omega⟩ _ r0⟩, fun z => ?_⟩
    rcases hs with rfl | rfl
    · exact absurd (by decide) z
    · exact absurd (by decide) z
  unfold wpX8_operand wpX8_operand_83 wpX8_operand_84 wpX8_operand_141 wpX8_operand_142
  exact c_type hP ⟨by have := ht.1; omega, fun _ => f143, fun n2 => ⟨fun _ => f143, fun n3 => ⟨fun e4 => ⟨fun _ => ⟨by decide, h0 ⟨n2, n3, by omega⟩ _ r0⟩, fun z => absurd (by decide) z⟩, fun _ => ⟨fun e5 => c_value hP ⟨by have := ht.2.1; omega, fun _ => f100 8 (Or.inl rfl) e5, fun _ => f100 16 (Or.inr rfl) e5⟩, fun _ => ⟨fun _ => f143, fun n64 => ⟨fun e91 => ⟨zand_bd _ _, fun _ => ⟨by decide, h0 ⟨n2, n3, by omega⟩ _ r0⟩, fun z => absurd (by decide) z⟩, fun _ => h0 ⟨n2, n3, by omega⟩ _ r0⟩⟩⟩⟩⟩⟩
/-- the reference's value where the class has one -/
theorem r_valOK {h : Int → Int} {L g : Int} {E M : Int → Int} {σ τ ρ : ZS} {p0 : List Int} {Qr : Int → ZS → Prop} (hg : 5 ≤ g ∧ g ≤ 6) (hC : CT h L E M σ) (hP : PS σ) (og : OG g σ τ) (vr : VRs σ g τ) (rS : SY h L E σ (zI σ 14 4) ρ) (rB : RB σ ρ (M (zI σ 14 4)) p0) (rF : Fresh ρ) (rQ : ∀ ρ' : ZS, SY h L E τ (zI τ 14 4) ρ' → RB τ ρ' (M (zI τ 14 4)) (p0 ++ nm (zI τ g 3)) → Opd ρ 1 ρ' → OR τ g ρ' → Qr 1 ρ') : wpX11_value ρ Qr := by
  have ht := hP.tk
  have lv := og.lv hg
  have i0 := hP.2.2.1.1
  have i1 : zI σ 14 4 < zI σ 12 3 := by have := hP.2.2.1; omega
  refine r_value hC i0 i1 rS rB rF (fun t ρ' s1 s2 s3 s4 s5 => ?_) (fun t ρ' s1 s2 s3 s4 s5 => ?_) (fun t t' ρ' s1 s2 s3 s4 s5 => ?_) (fun vf ρ' s1 s2 => ?_)
  · rcases vr.2 with ⟨-, e, e3, e2⟩ | ⟨t', -⟩ | ⟨t', -⟩
    · refine rQ ρ' (by rw [e]; exact s1.k lv.1 lv.2.1) ?_ s3 (Or.inr (Or.inr (Or.inr ⟨vr.1, Or.inl ⟨e3, s4, by rw [e2]; exact s5⟩⟩)))
      rw [e, e3, show nm (-1) = [] from rfl, List.append_nil]
      exact s2.k lv.1 lv.2.2.1 lv.2.2.2
    · omega
    · omega
  · rcases vr.2 with ⟨t', -⟩ | ⟨-, e, e3, e5, e2⟩ | ⟨t', -⟩
    · omega
    · have v0 := ht.2.1.1
      refine rQ ρ' (by rw [e]; exact s1.k lv.1 lv.2.1) ?_ s3 (Or.inr (Or.inr (Or.inr ⟨vr.1, Or.inr ⟨by omega, e2, by rw [e3]; exact s5, Or.inl ⟨e5, s4⟩⟩⟩)))
      rw [e, e3, show nm (zA σ 12 1 (zI σ 14 4)) = [zA σ 12 1 (zI σ 14 4)] from if_pos v0]
      exact s2.k lv.1 lv.2.2.1 lv.2.2.2
    · omega
  · rcases vr.2 with ⟨t2, -⟩ | ⟨t2, -⟩ | ⟨-, -, e, e3, e5, e2⟩
    · omega
    · omega
    · have n := hC.on i0 i1 (by omega)
      have v0 := (hC.1.1.2.2.2.2 (zI σ 14 4 + 1) (by omega) n).2.1.1
      refine rQ ρ' (by rw [e]; exact s1.k lv.1 lv.2.1) ?_ s3 (Or.inr (Or.inr (Or.inr ⟨vr.1, Or.inr ⟨by omega, e2, by rw [e3]; exact s5, Or.inr ⟨e5, s4⟩⟩⟩)))
      rw [e, e3, show nm (zA σ 12 1 (zI σ 14 4 + 1)) = [zA σ 12 1 (zI σ 14 4 + 1)] from if_pos v0]
      exact s2.k lv.1 lv.2.2.1 lv.2.2.2
  · exfalso
    rcases vr.2 with ⟨t, -⟩ | ⟨t, -⟩ | ⟨t, t', -⟩
    · exact vf.1 t
    · exact vf.2.1 t
    · exact vf.2.2 ⟨t, t'⟩
