/-! X: values on both sides -/
theorem CT.m1 {h : Int → Int} {L i : Int} {E M : Int → Int} {σ : ZS} (k : CT h L E M σ) (i0 : 0 ≤ i) (i1 : i < zI σ 12 3) (hn : zA σ 12 0 i ≠ 3) : M (i + 1) = M i := by
  obtain ⟨-, -, -, d⟩ := k.1.2.1.2.2 i i0 i1
  rcases d with ⟨d, -⟩ | ⟨-, d⟩
  · exact absurd d hn
  · exact d
/-- places grow; a word that is not a name has two letters -/
theorem CT.pl {h : Int → Int} {L i : Int} {E M : Int → Int} {σ : ZS} (k : CT h L E M σ) (i0 : 0 ≤ i) (i1 : i < zI σ 12 3) (hn : zA σ 12 0 i ≠ 0) : zA σ 12 2 i + 1 ≤ zA σ 12 2 (i + 1) ∧ (zA σ 12 0 i = 4 ∨ zA σ 12 0 i = 5 ∨ zA σ 12 0 i = 6 → zA σ 12 2 i + 2 ≤ zA σ 12 2 (i + 1)) := by
  have i2 := k.on i0 i1 hn
  obtain ⟨a, b, -, -⟩ := k.1.2.1.2.2 i i0 i1
  obtain ⟨a', -, -, -⟩ := k.1.2.1.2.2 (i + 1) (by omega) i2
  have l := b.le
  have r := a'.1
  refine ⟨by have := l.2.1 hn; omega, fun q => ?_⟩
  rcases b with ⟨-, -, b⟩ | ⟨b1, b2, b3, b4⟩ | ⟨b1, b2, b3, b4⟩ | ⟨b1, b2, b3, b4, b5, b6⟩
  · omega
  · rcases b4 with ⟨-, b4⟩ | ⟨b4, c, b5, b6⟩
    · omega
    · have hr := b3.1
      by_cases z : E (i + 1) - zA σ 12 2 i = 1
      · exfalso
        rw [z] at b5
        have e1 : wv h (zA σ 12 2 i) (1 : Int).toNat = h (zA σ 12 2 i) := by
          show 0 * 256 + h (zA σ 12 2 i + ((0 : Nat) : Int)) = _
          rw [show zA σ 12 2 i + ((0 : Nat) : Int) = zA σ 12 2 i by omega]; omega
        rw [e1] at b5
        have big : ∀ c : Nat, c < 48 → 256 ≤ zwords (c : Int) := by decide +kernel
        rcases b5 with ⟨c1, -⟩ | ⟨c1, c2, c3, -⟩
        · unfold xWrd at b6; omega
        · have := big c.toNat (by omega)
          rw [show ((c.toNat : Nat) : Int) = c by omega, c3] at this
          unfold cL at b2
          omega
      · omega
  · unfold xNum at b4; omega
  · unfold cS at b6; omega
theorem r_value50 {h : Int → Int} {L j k : Int} {E M : Int → Int} {σ ρ : ZS} {pend : List Int} {Q : Int → ZS → Prop} (hC : CT h L E M σ) (j0 : 0 ≤ j) (j1 : j < zI σ 12 3) (hS : SY h L E σ j ρ) (hB : RB σ ρ (M j) pend) (hF : Fresh ρ) (hk : zI ρ 0 37 = k) (h1 : zA σ 12 0 j = 3 → ∀ ρ' : ZS, SY h L E σ (j + 1) ρ' → RB σ ρ' (M (j + 1)) (pend ++ [zA σ 12 1 j]) → Opd ρ 1 ρ' → zI ρ' 0 37 = k → zI ρ' 0 39 = zA σ 12 1 j → Q 1 ρ') (h0 : zA σ 12 0 j ≠ 3 → ∀ ρ' : ZS, GG ρ' → PR ρ ρ' → Q 0 ρ') : wpX11_value_50 ρ Q := by
  have hG := hB.1
  unfold wpX11_value_50
  refine r_isName hG.2.1 hS (fun t => ⟨by decide, fun _ => ?_, fun q => absurd q (by decide)⟩) (fun t => ⟨by decide, fun q => absurd rfl q, fun _ => s_fault ⟨by decide, h0 t _ (GG_34 hG) PR_fault⟩⟩)
  have ht := (hS.2.2.2.2.f.2.2.2.1.mp t).1
  have hst := hG.2.2.1.2.1 (by omega)
  have hfr := hF ht
  refine r_name hC j0 j1 hS hB hF t (fun α aS aB af ap an => ?_)
  have aG := aB.1
  have a5 : zI α 0 5 = zI ρ 0 5 := af.1 5 (by decide)
  have a6 : zI α 0 6 = zI ρ 0 6 := af.1 6 (by decide)
  have a23 : zI α 0 23 = zI ρ 0 23 := af.1 23 (by decide)
  have l2 := hG.2.1.2.1
  have l1 := hG.2.1.1
  have bf : fr [39, 40] [] α (zsI (zsI α 0 39 (zA σ 12 1 j)) 0 40 (zI α 0 6)) := (fr.rf.ti (by decide)).ti (by decide)
  have bG : GG (zsI (zsI α 0 39 (zA σ 12 1 j)) 0 40 (zI α 0 6)) := GG_40 (GG_39 aG (by omega))
  refine r_use (σ := σ) (aS.fr bf (by decide) (by decide) (by decide) (by decide) (by decide) (by decide) (by decide) (by decide)) (aB.fr bG bf (by decide) (by decide) (by decide) (by decide) (by decide) (by decide) (by decide)) ⟨an.1, an.2.1, by rw [bf.1 17 (by decide)]; exact an.2.2⟩ (by omega) (by rw [bf.1 23 (by decide), bf.1 5 (by decide)]; omega) (fun β bS bB bff bp bu => ?_)
  refine r_next hC j0 j1 bS bB (by omega) (fun γ cS' cB cF cf cp c1 c2 => h1 t γ cS' cB ⟨cB.1, ap.tr ((PR_op (by decide)).tr ((PR_op (by decide)).tr (bp.tr cp))), ?_, Or.inr rfl, fun _ => ⟨?_, ⟨fun _ _ => ?_, fun _ => ⟨?_, ?_⟩⟩, cF⟩⟩ ?_ ?_)
  · rw [cf.1 31 (by decide), bff.1 31 (by decide), bf.1 31 (by decide), af.1 31 (by decide)]
  · have e6 : zI β 0 6 = zI ρ 0 6 := by rw [bff.1 6 (by decide), bf.1 6 (by decide), a6]
    omega
  · rw [cf.1 39 (by decide), bff.1 39 (by decide)]
    exact cp.hasUse bu
  · rw [cf.1 39 (by decide), bff.1 39 (by decide)]
    exact an.1
  · rw [cf.1 39 (by decide), bff.1 39 (by decide)]
    exact cp.hasUse bu
  · rw [cf.1 37 (by decide), bff.1 37 (by decide), bf.1 37 (by decide), af.1 37 (by decide)]; exact hk
  · rw [cf.1 39 (by decide), bff.1 39 (by decide)]
    rfl
/-- the reference's value at token i -/
theorem r_value {h : Int → Int} {L i : Int} {E M : Int → Int} {σ ρ : ZS} {pend : List Int} {Q : Int → ZS → Prop} (hC : CT h L E M σ) (i0 : 0 ≤ i) (i1 : i < zI σ 12 3) (hS : SY h L E σ i ρ) (hB : RB σ ρ (M i) pend) (hF : Fresh ρ)
    (hN : zA σ 12 0 i = 2 → ∀ ρ' : ZS, SY h L E σ (i + 1) ρ' → RB σ ρ' (M (i + 1)) pend → Opd ρ 1 ρ' → zI ρ' 0 37 = 3 → zI ρ' 0 38 = zA σ 12 1 i → Q 1 ρ')
    (h3 : zA σ 12 0 i = 3 → ∀ ρ' : ZS, SY h L E σ (i + 1) ρ' → RB σ ρ' (M (i + 1)) (pend ++ [zA σ 12 1 i]) → Opd ρ 1 ρ' → zI ρ' 0 37 = 4 → zI ρ' 0 39 = zA σ 12 1 i → Q 1 ρ')
    (h5 : zA σ 12 0 i = 64 → zA σ 12 0 (i + 1) = 3 → ∀ ρ' : ZS, SY h L E σ (i + 1 + 1) ρ' → RB σ ρ' (M (i + 1 + 1)) (pend ++ [zA σ 12 1 (i + 1)]) → Opd ρ 1 ρ' → zI ρ' 0 37 = 5 → zI ρ' 0 39 = zA σ 12 1 (i + 1) → Q 1 ρ')
    (h0 : (¬ zA σ 12 0 i = 2 ∧ ¬ zA σ 12 0 i = 3 ∧ ¬ (zA σ 12 0 i = 64 ∧ zA σ 12 0 (i + 1) = 3)) → ∀ ρ' : ZS, GG ρ' → PR ρ ρ' → Q 0 ρ') : wpX11_value ρ Q := by
  have hG := hB.1
  have T := hS.2.2.2.2.f
  have T64 := hS.2.2.2.2.sg (a := 64) (by unfold cS; omega)
  have l7 := hG.2.1.2.2.1
  have l10 := hG.2.1.2.2.2.2.1
  unfold wpX11_value
  have mk : ∀ k : Int, (k = 4 ∨ k = 5) → ∀ υ : ZS, fr [37, 38] [] ρ υ → zI υ 0 37 = k → GG υ → PR ρ υ → (SY h L E σ i υ ∧ RB σ υ (M i) pend ∧ Fresh υ) := by
    intro k hk υ f e g pr
    refine ⟨hS.fr f (by decide) (by decide) (by decide) (by decide) (by decide) (by decide) (by decide) (by decide), hB.fr g f (by decide) (by decide) (by decide) (by decide) (by decide) (by decide) (by decide), fun q => ?_⟩
    rw [f.1 7 (by decide)] at q
    rw [f.1 17 (by decide), f.1 6 (by decide), f.1 23 (by decide)]
    exact hF q
  have up : ∀ υ ρ' : ZS, PR ρ υ → zI υ 0 31 = zI ρ 0 31 → zI ρ 0 6 ≤ zI υ 0 6 → Opd υ 1 ρ' → Opd ρ 1 ρ' := by
    intro υ ρ' pr e31 e6 ⟨o1, o2, o3, o4, o5⟩
    refine ⟨o1, pr.tr o2, o3.trans e31, o4, fun q => ?_⟩
    obtain ⟨p1, p2, p3⟩ := o5 q
    exact ⟨by omega, p2, p3⟩
  refine ⟨by omega, fun n2 => ⟨fun n64 => ?_, fun y64 => ?_⟩, fun y2 => ?_⟩
  · have g : GG (zsI (zsI (zsI ρ 0 37 3) 0 38 (zI ρ 0 10)) 0 37 4) := GG_37 (GG_38 (GG_37 hG (by decide)) (by omega)) (by decide)
    have pr : PR ρ (zsI (zsI (zsI ρ 0 37 3) 0 38 (zI ρ 0 10)) 0 37 4) := (PR_op (by decide)).tr ((PR_op (by decide)).tr (PR_op (by decide)))
    obtain ⟨a, b, c⟩ := mk 4 (by decide) _ (((fr.rf.ti (by decide)).ti (by decide)).ti (by decide)) rfl g pr
    refine r_value50 (k := 4) hC i0 i1 a b c rfl (fun t ρ' s1 s2 s3 s4 s5 => h3 t ρ' s1 s2 (up _ _ pr rfl (Int.le_refl _) s3) s4 s5) (fun t ρ' s1 s2 => h0 ⟨by omega, t, fun q => ?_⟩ ρ' s1 (pr.tr s2))
    exact n64 (T64.mpr q.1)
  · have g : GG (zsI (zsI (zsI (zsI ρ 0 37 3) 0 38 (zI ρ 0 10)) 0 37 4) 0 37 5) := GG_37 (GG_37 (GG_38 (GG_37 hG (by decide)) (by omega)) (by decide)) (by decide)
    have pr : PR ρ (zsI (zsI (zsI (zsI ρ 0 37 3) 0 38 (zI ρ 0 10)) 0 37 4) 0 37 5) := (PR_op (by decide)).tr ((PR_op (by decide)).tr ((PR_op (by decide)).tr (PR_op (by decide))))
    obtain ⟨a, b, c⟩ := mk 5 (by decide) _ ((((fr.rf.ti (by decide)).ti (by decide)).ti (by decide)).ti (by decide)) rfl g pr
    have t64 : zA σ 12 0 i = 64 := T64.mp y64
    have i2 := hC.on i0 i1 (by omega)
    have em := hC.m1 i0 i1 (by omega)
    refine r_next hC i0 i1 a b (by omega) (fun γ cS' cB cF cf cp c1 c2 => ?_)
    have c37 : zI γ 0 37 = 5 := cf.1 37 (by decide)
    have c31 : zI γ 0 31 = zI ρ 0 31 := cf.1 31 (by decide)
    have c6 : zI ρ 0 6 + 1 ≤ zI γ 0 6 := c1
    rw [← em] at cB
    exact r_value50 (k := 5) hC (by omega) i2 cS' cB cF c37 (fun t ρ' s1 s2 s3 s4 s5 => h5 t64 t ρ' s1 s2 (up _ _ (pr.tr cp) c31 (by omega) s3) s4 s5) (fun t ρ' s1 s2 => h0 ⟨by omega, by omega, fun q => t q.2⟩ ρ' s1 ((pr.tr cp).tr s2))
  · have t2 : zA σ 12 0 i = 2 := T.2.1.mpr y2
    have g : GG (zsI (zsI ρ 0 37 3) 0 38 (zI ρ 0 10)) := GG_38 (GG_37 hG (by decide)) (by omega)
    have pr : PR ρ (zsI (zsI ρ 0 37 3) 0 38 (zI ρ 0 10)) := (PR_op (by decide)).tr (PR_op (by decide))
    have f : fr [37, 38] [] ρ (zsI (zsI ρ 0 37 3) 0 38 (zI ρ 0 10)) := (fr.rf.ti (by decide)).ti (by decide)
    have em := hC.m1 i0 i1 (by omega)
    refine r_next hC i0 i1 (hS.fr f (by decide) (by decide) (by decide) (by decide) (by decide) (by decide) (by decide) (by decide)) (hB.fr g f (by decide) (by decide) (by decide) (by decide) (by decide) (by decide) (by decide)) (by omega) (fun γ cS' cB cF cf cp c1 c2 => ?_)
    rw [← em] at cB
    have c37 : zI γ 0 37 = 3 := cf.1 37 (by decide)
    have c38 : zI γ 0 38 = zI ρ 0 10 := cf.1 38 (by decide)
    have c31 : zI γ 0 31 = zI ρ 0 31 := cf.1 31 (by decide)
    have c6 : zI ρ 0 6 + 1 ≤ zI γ 0 6 := c1
    exact hN t2 γ cS' cB ⟨cB.1, pr.tr cp, c31, Or.inr rfl, fun _ => ⟨c6, ⟨fun q => by omega, fun q => by omega⟩, cF⟩⟩ c37 (c38.trans (T.2.2.1 t2))
