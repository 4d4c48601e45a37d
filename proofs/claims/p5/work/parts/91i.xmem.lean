/-! X: memory on both sides, step by step -/
/-- class at σ, reference at ρ, while memory is read; ρ0 is where the reference began -/
def MmT (h : Int → Int) (L : Int) (E M : Int → Int) (g : Int) (p0 : List Int) (ρ0 σ ρ : ZS) : Prop := SY h L E σ (zI σ 14 4) ρ ∧ RB σ ρ (M (zI σ 14 4)) (p0 ++ nm (zI σ g 3)) ∧ Fresh ρ ∧ MmR σ g ρ ∧ OpU ρ ∧ PR ρ0 ρ ∧ zI ρ 0 31 = zI ρ0 0 31 ∧ zI ρ0 0 6 ≤ zI ρ 0 6
/-- the reference behind a part -/
def G97 (K : Int → Int → ZS → Prop) (Q : Int → ZS → Prop) (ρ : ZS) : Prop := (-2147483648 ≤ (zI ρ 0 7) ∧ (zI ρ 0 7) ≤ 2147483647) ∧ ((zI ρ 0 7) = 43 → wpX11_memoryOperand_119 K ρ Q) ∧ (¬ (zI ρ 0 7) = 43 → (¬ (zI ρ 0 7) = 45 → wpX11_memoryOperand_124 K 0 ρ Q) ∧ ((zI ρ 0 7) = 45 → wpX11_memoryOperand_119 K ρ Q))
/-- what a step of the class leaves alone -/
def LV (g : Int) (σ τ : ZS) : Prop := ob τ 11 = ob σ 11 ∧ ob τ 12 = ob σ 12 ∧ ob τ 13 = ob σ 13 ∧ zI τ 14 5 = zI σ 14 5
theorem OG.lv {g : Int} {σ τ : ZS} (hg : 5 ≤ g ∧ g ≤ 6) (k : OG g σ τ) : LV g σ τ := ⟨k.2.1 11 (m_no (by omega) (by decide)), k.2.1 12 (m_no (by omega) (by decide)), k.2.1 13 (m_no (by omega) (by decide)), k.2.2⟩
theorem r_97 {h : Int → Int} {L g : Int} {E M : Int → Int} {p0 : List Int} {σ τ ρ0 ρ : ZS} {K : Int → Int → ZS → Prop} {Q : Int → ZS → Prop} (hC : CT h L E M σ) (hP : PS σ) (hn : zA σ 12 0 (zI σ 14 4) ≠ 0) (lv : LV g σ τ) (ha : zI τ 14 4 = zI σ 14 4 + 1) (hS : SY h L E σ (zI σ 14 4) ρ) (hB : RB σ ρ (M (zI σ 14 4 + 1)) (p0 ++ nm (zI τ g 3))) (hM : MmR τ g ρ) (hO : OpU ρ) (hp : PR ρ0 ρ) (h31 : zI ρ 0 31 = zI ρ0 0 31) (h6 : zI ρ0 0 6 ≤ zI ρ 0 6) (hG : ∀ ρ' : ZS, MmT h L E M g p0 ρ0 τ ρ' → zI ρ0 0 6 + 1 ≤ zI ρ' 0 6 → G97 K Q ρ') : wpX11_memoryOperand_97 K ρ Q := by
  obtain ⟨v11, v12, v13, v5⟩ := lv
  have i0 := hP.2.2.1.1
  have i1 : zI σ 14 4 < zI σ 12 3 := by have := hP.2.2.1; omega
  unfold wpX11_memoryOperand_97
  refine r_next hC i0 i1 hS hB hn (fun γ cS' cB cF cf cp c1 c2 => hG γ ⟨?_, ?_, cF, ?_, ?_, hp.tr cp, ?_, ?_⟩ ?_)
  · rw [ha]; exact cS'.k v11 v12
  · rw [ha]; exact cB.k v11 v13 v5
  · obtain ⟨m1, m2, m3, m4, m5⟩ := hM
    exact ⟨by rw [cf.1 37 (by decide)]; exact m1, by rw [cf.1 38 (by decide)]; exact m2, by rw [cf.1 39 (by decide)]; exact m3, by rw [cf.1 41 (by decide)]; exact m4, by rw [cf.1 42 (by decide)]; exact m5⟩
  · exact hO.pr cp (cf.1 37 (by decide)) (cf.1 39 (by decide))
  · rw [cf.1 31 (by decide)]; exact h31
  · omega
  · omega
/-- the number of a part is added, or taken away -/
theorem r_60 {h : Int → Int} {L g s : Int} {E M : Int → Int} {p0 : List Int} {σ τ ρ0 ρ : ZS} {K : Int → Int → ZS → Prop} {Q : Int → ZS → Prop} (hC : CT h L E M σ) (hP : PS σ) (hs : s = 0 ∨ s = 1) (hn : zA σ 12 0 (zI σ 14 4) ≠ 0) (lv : LV g σ τ) (ha : zI τ 14 4 = zI σ 14 4 + 1) (hS : SY h L E σ (zI σ 14 4) ρ) (hB : RB σ ρ (M (zI σ 14 4 + 1)) (p0 ++ nm (zI τ g 3))) (h38 : zI ρ 0 38 = zI σ g 2 % 65536) (hM : zI ρ 0 37 = 2 ∧ zI ρ 0 39 = zI τ g 3 ∧ RGr (zI τ g 6) (zI ρ 0 41) ∧ RGr (zI τ g 7) (zI ρ 0 42)) (hO : OpU ρ) (hp : PR ρ0 ρ) (h31 : zI ρ 0 31 = zI ρ0 0 31) (h6 : zI ρ0 0 6 ≤ zI ρ 0 6)
    (h2 : zA σ 12 0 (zI σ 14 4) = 2 → zI τ g 2 = zI σ g 2 + (if s = 0 then zA σ 12 1 (zI σ 14 4) else -zA σ 12 1 (zI σ 14 4))) (h3 : zA σ 12 0 (zI σ 14 4) ≠ 2 → zI τ g 2 = zI σ g 2)
    (hG : ∀ ρ' : ZS, MmT h L E M g p0 ρ0 τ ρ' → zI ρ0 0 6 + 1 ≤ zI ρ' 0 6 → G97 K Q ρ') : wpX11_memoryOperand_60 K s ρ Q := by
  have T2 := hS.2.2.2.2.f.2.1
  have T2v := hS.2.2.2.2.f.2.2.1
  have gg := hB.1
  have l7 := gg.2.1.2.2.1
  obtain ⟨m1, m3, m4, m5⟩ := hM
  have f89 : ∀ a : Int, zI τ g 2 % 65536 = (zI ρ 0 38 + a) % 65536 → wpX11_memoryOperand_89 K a (zI ρ 0 38) ρ Q := by
    intro a e
    unfold wpX11_memoryOperand_89
    have bf : fr [38] [] ρ (zsI ρ 0 38 ((zI ρ 0 38 + a) % 65536)) := fr.rf.ti (by decide)
    have bG : GG (zsI ρ 0 38 ((zI ρ 0 38 + a) % 65536)) := GG_38 gg (by omega)
    exact r_97 hC hP hn lv ha (hS.fr bf (by decide) (by decide) (by decide) (by decide) (by decide) (by decide) (by decide) (by decide)) (hB.fr bG bf (by decide) (by decide) (by decide) (by decide) (by decide) (by decide) (by decide)) ⟨m1, e.symm, m3, m4, m5⟩ hO (hp.tr (PR_op (by decide))) h31 h6 hG
  unfold wpX11_memoryOperand_60
  refine ⟨by omega, fun n2 => ?_, fun y2 => ⟨by omega, fun z => f89 _ ?_, fun z => f89 _ ?_⟩⟩
  · exact r_97 hC hP hn lv ha hS hB ⟨m1, by rw [h38, h3 (fun q => n2 (T2.mp q))], m3, m4, m5⟩ hO hp h31 h6 hG
  · have t2 := T2.mpr y2
    rw [h2 t2, if_pos z, h38, T2v t2]; omega
  · have t2 := T2.mpr y2
    rw [h2 t2, if_neg z, h38, T2v t2]; omega
/-- a part on both sides -/
theorem r_segA {h : Int → Int} {L g : Int} {E M : Int → Int} {p0 : List Int} {σ τ ρ0 ρ : ZS} {K : Int → Int → ZS → Prop} {Q : Int → ZS → Prop} (hC : CT h L E M σ) (hP : PS σ) (lv : LV g σ τ) (ha : zI τ 14 4 = zI σ 14 4 + 1) (hps : PSt σ g τ) (hm : MmT h L E M g p0 ρ0 σ ρ) (hK : ∀ (a b : Int) (υ : ZS), wpbX11_memoryOperand_29 K a b υ Q → K a b υ) (hG : ∀ ρ' : ZS, MmT h L E M g p0 ρ0 τ ρ' → zI ρ0 0 6 + 1 ≤ zI ρ' 0 6 → G97 K Q ρ') : K 0 1 ρ := by
  obtain ⟨mS, mB, mF, mM, mO, mp, m31, m6⟩ := hm
  refine hK _ _ _ ?_
  unfold wpbX11_memoryOperand_29
  refine ⟨by decide, fun q => absurd q (by decide), fun _ => ⟨by decide, fun _ => ?_, fun q => absurd rfl q⟩⟩
  have hn : zA σ 12 0 (zI σ 14 4) ≠ 0 := by
    rcases hps.2 with ⟨t, -⟩ | ⟨t, -⟩ | ⟨t, -⟩ | ⟨t, -⟩ <;> omega
  refine r_part1 hC hP mS mB mF mM mO hps (fun β bS bB bO bM bp b31 b6 => ⟨by decide, fun _ => ?_, fun q => absurd q (by decide)⟩)
  obtain ⟨q1, q2, q3, q4, q5⟩ := bM
  refine r_60 hC hP (Or.inl rfl) hn lv ha bS bB (by rw [q2]; exact mM.2.1) ⟨q1, q3, q4, q5⟩ bO (mp.tr bp) (by rw [b31]; exact m31) (by rw [b6]; exact m6) (fun t => ?_) (fun t => ?_) hG
  · rw [if_pos rfl]
    rcases hps.2 with ⟨-, e, -⟩ | ⟨t', -⟩ | ⟨t', -⟩ | ⟨t', -⟩
    · exact e
    · omega
    · omega
    · omega
  · rcases hps.2 with ⟨t', -⟩ | ⟨-, -, -, e, -⟩ | ⟨-, -, -, -, e, -⟩ | ⟨-, -, -, -, e, -⟩
    · exact absurd t' t
    · exact e
    · exact e
    · exact e
theorem r_segA0 {h : Int → Int} {L g : Int} {E M : Int → Int} {p0 : List Int} {σ ρ0 ρ : ZS} {K : Int → Int → ZS → Prop} {Q : Int → ZS → Prop} (hps : PFl σ g) (hm : MmT h L E M g p0 ρ0 σ ρ) (hK : ∀ (a b : Int) (υ : ZS), wpbX11_memoryOperand_29 K a b υ Q → K a b υ) (h0 : ∀ ρ' : ZS, GG ρ' → PR ρ0 ρ' → Q 0 ρ') : K 0 1 ρ := by
  obtain ⟨mS, mB, mF, mM, mO, mp, m31, m6⟩ := hm
  refine hK _ _ _ ?_
  unfold wpbX11_memoryOperand_29
  refine ⟨by decide, fun q => absurd q (by decide), fun _ => ⟨by decide, fun _ => ?_, fun q => absurd rfl q⟩⟩
  refine r_part0 mB.1 mS mM hps ⟨by decide, fun q => absurd rfl q, fun _ => ?_⟩
  unfold wpX11_memoryOperand_55
  exact s_fault ⟨by decide, h0 _ (GG_34 mB.1) (mp.tr PR_fault)⟩
/-- a number behind a minus -/
theorem r_segB {h : Int → Int} {L g : Int} {E M : Int → Int} {p0 : List Int} {σ τ ρ0 ρ : ZS} {K : Int → Int → ZS → Prop} {Q : Int → ZS → Prop} (hC : CT h L E M σ) (hP : PS σ) (lv : LV g σ τ) (ha : zI τ 14 4 = zI σ 14 4 + 1) (t : zA σ 12 0 (zI σ 14 4) = 2) (e2 : zI τ g 2 = zI σ g 2 - zA σ 12 1 (zI σ 14 4)) (e3 : zI τ g 3 = zI σ g 3) (e6 : zI τ g 6 = zI σ g 6) (e7 : zI τ g 7 = zI σ g 7) (hm : MmT h L E M g p0 ρ0 σ ρ) (hK : ∀ (a b : Int) (υ : ZS), wpbX11_memoryOperand_29 K a b υ Q → K a b υ) (hG : ∀ ρ' : ZS, MmT h L E M g p0 ρ0 τ ρ' → zI ρ0 0 6 + 1 ≤ zI ρ' 0 6 → G97 K Q ρ') : K 1 1 ρ := by
  obtain ⟨mS, mB, mF, mM, mO, mp, m31, m6⟩ := hm
  have T2 := mS.2.2.2.2.f.2.1.mp t
  have i0 := hP.2.2.1.1
  have i1 : zI σ 14 4 < zI σ 12 3 := by have := hP.2.2.1; omega
  refine hK _ _ _ ?_
  unfold wpbX11_memoryOperand_29
  refine ⟨by decide, fun q => absurd q (by decide), fun _ => ⟨by decide, fun q => absurd q (by decide), fun _ => ⟨by omega, fun _ => ?_, fun q => absurd T2 q⟩⟩⟩
  obtain ⟨q1, q2, q3, q4, q5⟩ := mM
  refine r_60 hC hP (Or.inr rfl) (by omega) lv ha mS (by rw [hC.m1 i0 i1 (by omega), e3]; exact mB) q2 ⟨q1, by rw [e3]; exact q3, by rw [e6]; exact q4, by rw [e7]; exact q5⟩ mO mp m31 m6 (fun _ => ?_) (fun n => absurd t n) hG
  rw [if_neg (by decide), e2]; omega
theorem r_segB0 {h : Int → Int} {L g : Int} {E M : Int → Int} {p0 : List Int} {σ ρ0 ρ : ZS} {K : Int → Int → ZS → Prop} {Q : Int → ZS → Prop} (t : zA σ 12 0 (zI σ 14 4) ≠ 2) (hm : MmT h L E M g p0 ρ0 σ ρ) (hK : ∀ (a b : Int) (υ : ZS), wpbX11_memoryOperand_29 K a b υ Q → K a b υ) (h0 : ∀ ρ' : ZS, GG ρ' → PR ρ0 ρ' → Q 0 ρ') : K 1 1 ρ := by
  obtain ⟨mS, mB, mF, mM, mO, mp, m31, m6⟩ := hm
  have T2 := mS.2.2.2.2.f.2.1
  have l7 := mB.1.2.1.2.2.1
  refine hK _ _ _ ?_
  unfold wpbX11_memoryOperand_29 wpX11_memoryOperand_55
  exact ⟨by decide, fun q => absurd q (by decide), fun _ => ⟨by decide, fun q => absurd q (by decide), fun _ => ⟨by omega, fun q => absurd (T2.mpr q) t, fun _ => s_fault ⟨by decide, h0 _ (GG_34 mB.1) (mp.tr PR_fault)⟩⟩⟩⟩
/-- a plus or a minus -/
theorem r_segC {h : Int → Int} {L g : Int} {E M : Int → Int} {p0 : List Int} {σ τ ρ0 ρ : ZS} {K : Int → Int → ZS → Prop} {Q : Int → ZS → Prop} (hC : CT h L E M σ) (hP : PS σ) (lv : LV g σ τ) (ha : zI τ 14 4 = zI σ 14 4 + 1) (e2 : zI τ g 2 = zI σ g 2) (e3 : zI τ g 3 = zI σ g 3) (e6 : zI τ g 6 = zI σ g 6) (e7 : zI τ g 7 = zI σ g 7) (hm : MmT h L E M g p0 ρ0 σ ρ) (s : Int) (hs : (s = 0 ∧ zA σ 12 0 (zI σ 14 4) = 43) ∨ (s = 1 ∧ zA σ 12 0 (zI σ 14 4) = 45)) (hG : ∀ ρ' : ZS, MmT h L E M g p0 ρ0 τ ρ' → K s 1 ρ') : G97 K Q ρ := by
  obtain ⟨mS, mB, mF, mM, mO, mp, m31, m6⟩ := hm
  obtain ⟨v11, v12, v13, v5⟩ := lv
  have S43 := mS.2.2.2.2.sg (a := 43) (by unfold cS; omega)
  have S45 := mS.2.2.2.2.sg (a := 45) (by unfold cS; omega)
  have i0 := hP.2.2.1.1
  have i1 : zI σ 14 4 < zI σ 12 3 := by have := hP.2.2.1; omega
  have l7 := mB.1.2.1.2.2.1
  have go : wpX11_next ρ (fun σ7 => K s 1 σ7) := by
    refine r_next hC i0 i1 mS mB (by omega) (fun γ cS' cB cF cf cp c1 c2 => hG γ ⟨?_, ?_, cF, ?_, ?_, mp.tr cp, ?_, by omega⟩)
    · rw [ha]; exact cS'.k v11 v12
    · rw [ha, hC.m1 i0 i1 (by omega), e3]; exact cB.k v11 v13 v5
    · obtain ⟨m1, m2, m3, m4, m5⟩ := mM
      exact ⟨by rw [cf.1 37 (by decide)]; exact m1, by rw [cf.1 38 (by decide), e2]; exact m2, by rw [cf.1 39 (by decide), e3]; exact m3, by rw [cf.1 41 (by decide), e6]; exact m4, by rw [cf.1 42 (by decide), e7]; exact m5⟩
    · exact mO.pr cp (cf.1 37 (by decide)) (cf.1 39 (by decide))
    · rw [cf.1 31 (by decide)]; exact m31
  have f : wpX11_memoryOperand_119 K ρ Q := by
    unfold wpX11_memoryOperand_119 wpX11_memoryOperand_124 wpX11_memoryOperand_139
    rcases hs with ⟨s0, t⟩ | ⟨s0, t⟩
    · subst s0
      exact ⟨by omega, fun _ => ⟨by decide, fun q => absurd q (by decide), fun _ => go⟩, fun q => by have := S45.mp q; omega⟩
    · subst s0
      exact ⟨by omega, fun q => absurd (S45.mpr t) q, fun _ => ⟨by decide, fun q => absurd q (by decide), fun _ => go⟩⟩
  refine ⟨by omega, fun _ => f, fun n => ⟨fun n' => ?_, fun _ => f⟩⟩
  rcases hs with ⟨-, t⟩ | ⟨-, t⟩
  · exact absurd (S43.mpr t) n
  · exact absurd (S45.mpr t) n'
/-- the end of memory -/
theorem r_segD {h : Int → Int} {L g : Int} {E M : Int → Int} {p0 : List Int} {σ ρ0 ρ : ZS} {K : Int → Int → ZS → Prop} {Q : Int → ZS → Prop} (hC : CT h L E M σ) (hP : PS σ) (hm : MmT h L E M g p0 ρ0 σ ρ) (n43 : zA σ 12 0 (zI σ 14 4) ≠ 43) (n45 : zA σ 12 0 (zI σ 14 4) ≠ 45) (hK : ∀ (a b : Int) (υ : ZS), wpbX11_memoryOperand_29 K a b υ Q → K a b υ)
    (h1 : zA σ 12 0 (zI σ 14 4) = 93 → ∀ ρ' : ZS, SY h L E σ (zI σ 14 4 + 1) ρ' → RB σ ρ' (M (zI σ 14 4 + 1)) (p0 ++ nm (zI σ g 3)) → Opd ρ0 1 ρ' → MmR σ g ρ' → Q 1 ρ') (h0 : zA σ 12 0 (zI σ 14 4) ≠ 93 → ∀ ρ' : ZS, GG ρ' → PR ρ0 ρ' → Q 0 ρ') : G97 K Q ρ := by
  obtain ⟨mS, mB, mF, mM, mO, mp, m31, m6⟩ := hm
  have S43 := mS.2.2.2.2.sg (a := 43) (by unfold cS; omega)
  have S45 := mS.2.2.2.2.sg (a := 45) (by unfold cS; omega)
  have i0 := hP.2.2.1.1
  have i1 : zI σ 14 4 < zI σ 12 3 := by have := hP.2.2.1; omega
  have l7 := mB.1.2.1.2.2.1
  refine ⟨by omega, fun q => absurd (S43.mp q) n43, fun _ => ⟨fun _ => ?_, fun q => absurd (S45.mp q) n45⟩⟩
  unfold wpX11_memoryOperand_124 wpX11_memoryOperand_139
  refine ⟨by omega, fun _ => ⟨by decide, fun _ => hK _ _ _ ?_, fun q => absurd rfl q⟩, fun q => absurd (S45.mp q) n45⟩
  unfold wpbX11_memoryOperand_29
  refine ⟨by decide, fun _ => ?_, fun q => absurd rfl q⟩
  refine r_take hC i0 i1 mS mB (by unfold cS; omega) (fun t γ cS' cB cF cf cp c1 c2 => ⟨by decide, h1 t γ cS' ?_ ⟨cB.1, mp.tr cp, ?_, Or.inr rfl, fun _ => ⟨by omega, ?_, cF⟩⟩ ?_⟩) (fun t => ⟨by decide, h0 t _ (GG_34 mB.1) (mp.tr PR_fault)⟩)
  · rw [hC.m1 i0 i1 (by omega)]; exact cB
  · rw [cf.1 31 (by decide)]; exact m31
  · exact mO.pr cp (cf.1 37 (by decide)) (cf.1 39 (by decide))
  · obtain ⟨m1, m2, m3, m4, m5⟩ := mM
    exact ⟨by rw [cf.1 37 (by decide)]; exact m1, by rw [cf.1 38 (by decide)]; exact m2, by rw [cf.1 39 (by decide)]; exact m3, by rw [cf.1 41 (by decide)]; exact m4, by rw [cf.1 42 (by decide)]; exact m5⟩
