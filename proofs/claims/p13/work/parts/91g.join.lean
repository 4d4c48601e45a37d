/-! X: values on both sides -/
theorem CT.m1 {h : Int → Int} {L i : Int} {E M : Int → Int} {σ : ZS} (k : CT h L E M σ) (i0 : 0 ≤ i) (i1 : i < zI σ 12 3) (hn : zA σ 12 0 i ≠ 3) : M (i + 1) = M i := by
  obtain ⟨-, -, -, d⟩ := k.1.2.1.2.2 i i0 i1
  rcases d with ⟨d, -⟩ | ⟨-, d⟩
  · exact absurd d hn
  · exact d
/-- places grow; a word that is not a name has two letters -/
theorem CT.pl {h : Int → Int} {L i : Int} {E M : Int → Int} {σ : ZS} (k : CT h L E M σ) (i0 : 0 ≤ i) (i1 : i < zI σ 12 3) (hn : zA σ 12 0 i ≠ 0) : zA σ 12 2 i + 1 ≤ zA σ 12 2 (i + 1) ∧ (zA σ 12 0 i = 4 ∨ zA σ 12 0 i = 5 ∨ zA σ 12 0 i = 6 → zA σ 12 2 i + 2 ≤ zA σ 12 2 (i + 1)) := by
  have i2 := k.on i0 i1 hn
  obtain ⟨a, b, -, -⟩ := k.1.2.1.2.2 i i0 i1
  obtain ⟨a', -, -, -⟩ := k.1.2.1.2.2 (i + 1) (by omega) i2
  have l := b.le
  have r := a'.1
  refine ⟨by have := l.2.1 hn; omega, fun q => ?_⟩
  rcases b with ⟨-, -, b⟩ | ⟨b1, b2, b3, b4⟩ | ⟨b1, b2, b3, b4⟩ | ⟨b1, b2, b3, b4, b5, b6⟩
  · omega
  · rcases b4 with ⟨-, b4⟩ | ⟨b4, c, b5, b6⟩
    · omega
    · have hr := b3.1
      by_cases z : E (i + 1) - zA σ 12 2 i = 1
      · exfalso
        rw [z] at b5
        have e1 : wv h (zA σ 12 2 i) (1 : Int).toNat = h (zA σ 12 2 i) := by
          show 0 * 256 + h (zA σ 12 2 i + ((0 : Nat) : Int)) = _
          rw [show zA σ 12 2 i + ((0 : Nat) : Int) = zA σ 12 2 i by omega]; omega
        rw [e1] at b5
        have big : ∀ c : Nat, c < 48 → 256 ≤ zwords (c : Int) := by decide +kernel
        rcases b5 with ⟨c1, -⟩ | ⟨c1, c2, c3, -⟩
        · unfold xWrd at b6; omega
        · have := big c.toNat (by omega)
          rw [show ((c.toNat : Nat) : Int) = c by omega, c3] at this
          unfold cL at b2
          omega
      · omega
  · unfold xNum at b4; omega
  · unfold cS at b6; omega
theorem r_value50 {h : Int → Int} {L j k : Int} {E M : Int → Int} {σ ρ : ZS} {pend : List Int} {Q : Int → ZS → Prop} (hC : CT h L E M σ) (j0 : 0 ≤ j) (j1 : j < zI σ 12 3) (hS : SY h L E σ j ρ) (hB : RB σ ρ (M j) pend) (hF : Fresh ρ) (hk : zI ρ 0 37 = k) (h1 : zA σ 12 0 j = 3 → ∀ ρ' : ZS, SY h L E σ (j + 1) ρ' → RB σ ρ' (M (j + 1)) (pend ++ [zA σ 12 1 j]) → Opd ρ 1 ρ' → zI ρ' 0 37 = k → zI ρ' 0 39 = zA σ 12 1 j → Q 1 ρ') (h0 : zA σ 12 0 j ≠ 3 → ∀ ρ' : ZS, GG ρ' → PR ρ ρ' → Q 0 ρ') : wpX11_value_50 ρ Q := by
  have hG := hB.1
  unfold wpX11_value_50
  refine r_isName hG.2.1 hS (fun t => ⟨by decide, fun _ => ?_, fun q => absurd q (by decide)⟩) (fun t => ⟨by decide, fun q => absurd rfl q, fun _ => s_fault ⟨by decide, h0 t _ (GG_34 hG) PR_fault⟩⟩)
  have ht := (hS.2.2.2.2.f.2.2.2.1.mp t).1
  have hst := hG.2.2.1.2.1 (by omega)
  have hfr := hF ht
  refine r_name hC j0 j1 hS hB hF t (fun α aS aB af ap an => ?_)
  have aG := aB.1
  have a5 : zI α 0 5 = zI ρ 0 5 := af.1 5 (by decide)
  have a6 : zI α 0 6 = zI ρ 0 6 := af.1 6 (by decide)
  have a23 : zI α 0 23 = zI ρ 0 23 := af.1 23 (by decide)
  have l2 := hG.2.1.2.1
  have l1 := hG.2.1.1
  have bf : fr [39, 40] [] α (zsI (zsI α 0 39 (zA σ 12 1 j)) 0 40 (zI α 0 6)) := (fr.rf.ti (by decide)).ti (by decide)
  have bG : GG (zsI (zsI α 0 39 (zA σ 12 1 j)) 0 40 (zI α 0 6)) := GG_40 (GG_39 aG (by omega))
  refine r_use (σ := σ) (aS.fr bf (by decide) (by decide) (by decide) (by decide) (by decide) (by decide) (by decide) (by decide)) (aB.fr bG bf (by decide) (by decide) (by decide) (by decide) (by decide) (by decide) (by decide)) ⟨an.1, an.2.1, by rw [bf.1 17 (by decide)]; exact an.2.2⟩ (by omega) (by rw [bf.1 23 (by decide), bf.1 5 (by decide)]; omega) (fun β bS bB bff bp bu => ?_)
  refine r_next hC j0 j1 bS bB (by omega) (fun γ cS' cB cF cf cp c1 c2 => h1 t γ cS' cB ⟨cB.1, ap.tr ((PR_op (by decide)).tr ((PR_op (by decide)).tr (bp.tr cp))), ?_, Or.inr rfl, fun _ => ⟨?_, ⟨fun _ _ => ?_, fun _ => ⟨?_, ?_⟩⟩, cF⟩⟩ ?_ ?_)
  · rw [cf.1 31 (by decide), bff.1 31 (by decide), bf.1 31 (by decide), af.1 31 (by decide)]
  · have e6 : zI β 0 6 = zI ρ 0 6 := by rw [bff.1 6 (by decide), bf.1 6 (by decide), a6]
    omega
  · rw [cf.1 39 (by decide), bff.1 39 (by decide)]
    exact cp.hasUse bu
  · rw [cf.1 39 (by decide), bff.1 39 (by decide)]
    exact an.1
  · rw [cf.1 39 (by decide), bff.1 39 (by decide)]
    exact cp.hasUse bu
  · rw [cf.1 37 (by decide), bff.1 37 (by decide), bf.1 37 (by decide), af.1 37 (by decide)]; exact hk
  · rw [cf.1 39 (by decide), bff.1 39 (by decide)]
    rfl
/-- the reference's value at token i -/
theorem r_value {h : Int → Int} {L i : Int} {E M : Int → Int} {σ ρ : ZS} {pend : List Int} {Q : Int → ZS → Prop} (hC : CT h L E M σ) (i0 : 0 ≤ i) (i1 : i < zI σ 12 3) (hS : SY h L E σ i ρ) (hB : RB σ ρ (M i) pend) (hF : Fresh ρ)
    (hN : zA σ 12 0 i = 2 → ∀ ρ' : ZS, SY h L E σ (i + 1) ρ' → RB σ ρ' (M (i + 1)) pend → Opd ρ 1 ρ' → zI ρ' 0 37 = 3 → zI ρ' 0 38 = zA σ 12 1 i → Q 1 ρ')
    (h3 : zA σ 12 0 i = 3 → ∀ ρ' : ZS, SY h L E σ (i + 1) ρ' → RB σ ρ' (M (i + 1)) (pend ++ [zA σ 12 1 i]) → Opd ρ 1 ρ' → zI ρ' 0 37 = 4 → zI ρ' 0 39 = zA σ 12 1 i → Q 1 ρ')
    (h5 : zA σ 12 0 i = 64 → zA σ 12 0 (i + 1) = 3 → ∀ ρ' : ZS, SY h L E σ (i + 1 + 1) ρ' → RB σ ρ' (M (i + 1 + 1)) (pend ++ [zA σ 12 1 (i + 1)]) → Opd ρ 1 ρ' → zI ρ' 0 37 = 5 → zI ρ' 0 39 = zA σ 12 1 (i + 1) → Q 1 ρ')
    (h0 : (¬ zA σ 12 0 i = 2 ∧ ¬ zA σ 12 0 i = 3 ∧ ¬ (zA σ 12 0 i = 64 ∧ zA σ 12 0 (i + 1) = 3)) → ∀ ρ' : ZS, GG ρ' → PR ρ ρ' → Q 0 ρ') : wpX11_value ρ Q := by
  have hG := hB.1
  have T := hS.2.2.2.2.f
  have T64 := hS.2.2.2.2.sg (a := 64) (by unfold cS; omega)
  have l7 := hG.2.1.2.2.1
  have l10 := hG.2.1.2.2.2.2.1
  unfold wpX11_value
  have mk : ∀ k : Int, (k = 4 ∨ k = 5) → ∀ υ : ZS, fr [37, 38] [] ρ υ → zI υ 0 37 = k → GG υ → PR ρ υ → (SY h L E σ i υ ∧ RB σ υ (M i) pend ∧ Fresh υ) := by
    intro k hk υ f e g pr
    refine ⟨hS.fr f (by decide) (by decide) (by decide) (by decide) (by decide) (by decide) (by decide) (by decide), hB.fr g f (by decide) (by decide) (by decide) (by decide) (by decide) (by decide) (by decide), fun q => ?_⟩
    rw [f.1 7 (by decide)] at q
    rw [f.1 17 (by decide), f.1 6 (by decide), f.1 23 (by decide)]
    exact hF q
  have up : ∀ υ ρ' : ZS, PR ρ υ → zI υ 0 31 = zI ρ 0 31 → zI ρ 0 6 ≤ zI υ 0 6 → Opd υ 1 ρ' → Opd ρ 1 ρ' := by
    intro υ ρ' pr e31 e6 ⟨o1, o2, o3, o4, o5⟩
    refine ⟨o1, pr.tr o2, o3.trans e31, o4, fun q => ?_⟩
    obtain ⟨p1, p2, p3⟩ := o5 q
    exact ⟨by omega, p2, p3⟩
  refine ⟨by omega, fun n2 => ⟨fun n64 => ?_, fun y64 => ?_⟩, fun y2 => ?_⟩
  · have g : GG (zsI (zsI (zsI ρ 0 37 3) 0 38 (zI ρ 0 10)) 0 37 4) := GG_37 (GG_38 (GG_37 hG (by decide)) (by omega)) (by decide)
    have pr : PR ρ (zsI (zsI (zsI ρ 0 37 3) 0 38 (zI ρ 0 10)) 0 37 4) := (PR_op (by decide)).tr ((PR_op (by decide)).tr (PR_op (by decide)))
    obtain ⟨a, b, c⟩ := mk 4 (by decide) _ (((fr.rf.ti (by decide)).ti (by decide)).ti (by decide)) rfl g pr
    refine r_value50 (k := 4) hC i0 i1 a b c rfl (fun t ρ' s1 s2 s3 s4 s5 => h3 t ρ' s1 s2 (up _ _ pr rfl (Int.le_refl _) s3) s4 s5) (fun t ρ' s1 s2 => h0 ⟨by omega, t, fun q => ?_⟩ ρ' s1 (pr.tr s2))
    exact n64 (T64.mpr q.1)
  · have g : GG (zsI (zsI (zsI (zsI ρ 0 37 3) 0 38 (zI ρ 0 10)) 0 37 4) 0 37 5) := GG_37 (GG_37 (GG_38 (GG_37 hG (by decide)) (by omega)) (by decide)) (by decide)
    have pr : PR ρ (zsI (zsI (zsI (zsI ρ 0 37 3) 0 38 (zI ρ 0 10)) 0 37 4) 0 37 5) := (PR_op (by decide)).tr ((PR_op (by decide)).tr ((PR_op (by decide)).tr (PR_op (by decide))))
    obtain ⟨a, b, c⟩ := mk 5 (by decide) _ ((((fr.rf.ti (by decide)).ti (by decide)).ti (by decide)).ti (by decide)) rfl g pr
    have t64 : zA σ 12 0 i = 64 := T64.mp y64
    have i2 := hC.on i0 i1 (by omega)
    have em := hC.m1 i0 i1 (by omega)
    refine r_next hC i0 i1 a b (by omega) (fun γ cS' cB cF cf cp c1 c2 => ?_)
    have c37 : zI γ 0 37 = 5 := cf.1 37 (by decide)
    have c31 : zI γ 0 31 = zI ρ 0 31 := cf.1 31 (by decide)
    have c6 : zI ρ 0 6 + 1 ≤ zI γ 0 6 := c1
    rw [← em] at cB
    exact r_value50 (k := 5) hC (by omega) i2 cS' cB cF c37 (fun t ρ' s1 s2 s3 s4 s5 => h5 t64 t ρ' s1 s2 (up _ _ (pr.tr cp) c31 (by omega) s3) s4 s5) (fun t ρ' s1 s2 => h0 ⟨by omega, by omega, fun q => t q.2⟩ ρ' s1 ((pr.tr cp).tr s2))
  · have t2 : zA σ 12 0 i = 2 := T.2.1.mpr y2
    have g : GG (zsI (zsI ρ 0 37 3) 0 38 (zI ρ 0 10)) := GG_38 (GG_37 hG (by decide)) (by omega)
    have pr : PR ρ (zsI (zsI ρ 0 37 3) 0 38 (zI ρ 0 10)) := (PR_op (by decide)).tr (PR_op (by decide))
    have f : fr [37, 38] [] ρ (zsI (zsI ρ 0 37 3) 0 38 (zI ρ 0 10)) := (fr.rf.ti (by decide)).ti (by decide)
    have em := hC.m1 i0 i1 (by omega)
    refine r_next hC i0 i1 (hS.fr f (by decide) (by decide) (by decide) (by decide) (by decide) (by decide) (by decide) (by decide)) (hB.fr g f (by decide) (by decide) (by decide) (by decide) (by decide) (by decide) (by decide)) (by omega) (fun γ cS' cB cF cf cp c1 c2 => ?_)
    rw [← em] at cB
    have c37 : zI γ 0 37 = 3 := cf.1 37 (by decide)
    have c38 : zI γ 0 38 = zI ρ 0 10 := cf.1 38 (by decide)
    have c31 : zI γ 0 31 = zI ρ 0 31 := cf.1 31 (by decide)
    have c6 : zI ρ 0 6 + 1 ≤ zI γ 0 6 := c1
    exact hN t2 γ cS' cB ⟨cB.1, pr.tr cp, c31, Or.inr rfl, fun _ => ⟨c6, ⟨fun q => by omega, fun q => by omega⟩, cF⟩⟩ c37 (c38.trans (T.2.2.1 t2))
/-! X: the parts of memory on both sides -/
theorem x_clear {g k : Int} {σ : ZS} {Q : ZS → Prop} (hg : 5 ≤ g ∧ g ≤ 6) (h : PS σ) (hk : 0 ≤ k ∧ k ≤ 16) (hQ : ∀ τ : ZS, OG g σ τ → OPI τ g → (zI τ g 0 = k ∧ zI τ g 2 = 0 ∧ zI τ g 3 = -1 ∧ zI τ g 5 = 0 ∧ zI τ g 6 = 0 ∧ zI τ g 7 = 0) → ob τ 14 = ob σ 14 → Q τ) : wpX7_clear g k σ Q := by
  have g0 := c_clear (Q := fun τ => OG g σ τ ∧ OPI τ g ∧ ob τ 14 = ob σ 14) hg h hk (fun τ a b _ _ e => ⟨a, b, e⟩)
  unfold wpX7_clear at g0 ⊢
  obtain ⟨h0, h1, h2, h3⟩ := g0
  refine ⟨h0, hQ _ h1 h2 ?_ h3⟩
  obtain rfl | rfl : g = 5 ∨ g = 6 := by omega
  · exact ⟨rfl, rfl, rfl, rfl, rfl, rfl⟩
  · exact ⟨rfl, rfl, rfl, rfl, rfl, rfl⟩
/-- a part of memory is taken -/
def PSt (σ : ZS) (g : Int) (τ : ZS) : Prop := (zI τ g 0 = zI σ g 0 ∧ zI τ g 5 = zI σ g 5) ∧ ((zA σ 12 0 (zI σ 14 4) = 2 ∧ zI τ g 2 = zI σ g 2 + zA σ 12 1 (zI σ 14 4) ∧ zI τ g 3 = zI σ g 3 ∧ zI τ g 6 = zI σ g 6 ∧ zI τ g 7 = zI σ g 7) ∨ (zA σ 12 0 (zI σ 14 4) = 3 ∧ zI σ g 3 < 0 ∧ zI τ g 3 = zA σ 12 1 (zI σ 14 4) ∧ zI τ g 2 = zI σ g 2 ∧ zI τ g 6 = zI σ g 6 ∧ zI τ g 7 = zI σ g 7) ∨ (zA σ 12 0 (zI σ 14 4) = 4 ∧ (zA σ 12 1 (zI σ 14 4) = 3 ∨ zA σ 12 1 (zI σ 14 4) = 5) ∧ zI σ g 6 = 0 ∧ zI τ g 6 = zA σ 12 1 (zI σ 14 4) ∧ zI τ g 2 = zI σ g 2 ∧ zI τ g 3 = zI σ g 3 ∧ zI τ g 7 = zI σ g 7) ∨ (zA σ 12 0 (zI σ 14 4) = 4 ∧ (zA σ 12 1 (zI σ 14 4) = 6 ∨ zA σ 12 1 (zI σ 14 4) = 7) ∧ zI σ g 7 = 0 ∧ zI τ g 7 = zA σ 12 1 (zI σ 14 4) ∧ zI τ g 2 = zI σ g 2 ∧ zI τ g 3 = zI σ g 3 ∧ zI τ g 6 = zI σ g 6))
/-- no part of memory -/
def PFl (σ : ZS) (g : Int) : Prop := ¬ zA σ 12 0 (zI σ 14 4) = 2 ∧ ¬ (zA σ 12 0 (zI σ 14 4) = 3 ∧ zI σ g 3 < 0) ∧ ¬ (zA σ 12 0 (zI σ 14 4) = 4 ∧ (zA σ 12 1 (zI σ 14 4) = 3 ∨ zA σ 12 1 (zI σ 14 4) = 5) ∧ zI σ g 6 = 0) ∧ ¬ (zA σ 12 0 (zI σ 14 4) = 4 ∧ (zA σ 12 1 (zI σ 14 4) = 6 ∨ zA σ 12 1 (zI σ 14 4) = 7) ∧ zI σ g 7 = 0)
theorem x_part {g : Int} {σ : ZS} {Q : Int → ZS → Prop} (hg : 5 ≤ g ∧ g ≤ 6) (h : PS σ) (ho : OPB σ g) (h1 : ∀ τ : ZS, OG g σ τ → OPB τ g → zI τ 14 4 = zI σ 14 4 + 1 → PSt σ g τ → Q 1 τ) (h0 : PFl σ g → Q 0 σ) : wpX8_part g σ Q := by
  obtain ⟨a1, a2, a3, a4, a5, a6, a7⟩ := ho
  have ht := h.tk
  have hN := h.2.2.2.2.2.2
  obtain ⟨t1, t2, t3, t4⟩ := ht
  have f141 : ∀ τ : ZS, zA σ 12 0 (zI σ 14 4) ≠ 0 → OG g σ τ → ob τ 14 = ob σ 14 → OPB τ g → PSt σ g τ → wpX8_part_141 τ Q := by
    intro τ hn og e14 oo ps
    unfold wpX8_part_141
    refine h1 _ (og.on ?_) (oo.k (ob_i (by decide)) (ob_i (by omega))) ?_ ?_
    · rw [og.2.1.A (m_no (by omega) (by decide)) 0, ob_I e14 4]; exact hn
    · rw [zI_s, ob_I e14 4]
    · unfold PSt at ps ⊢
      simp only [zI_g (show g ≠ 14 by omega)]
      exact ps
  have f124 : ∀ v : Int, v = zA σ 12 1 (zI σ 14 4) → v = 6 ∨ v = 7 → zA σ 12 0 (zI σ 14 4) = 4 → wpX8_part_124 g v σ Q := by
    intro v ve hv hn
    unfold wpX8_part_124 wpX8_part_139
    refine ⟨hg, by omega, fun q => h0 ?_, fun q => f141 _ (by omega) ((OG.rf h).g hg) (ob_i (by omega)) ?_ ?_⟩
    · unfold PFl; omega
    · unfold OPB
      simp only [zI_g (show (11 : Int) ≠ g by omega), zI_s, zI_f (show (0 : Nat) ≠ 7 by decide), zI_f (show (3 : Nat) ≠ 7 by decide), zI_f (show (4 : Nat) ≠ 7 by decide), zI_f (show (5 : Nat) ≠ 7 by decide), zI_f (show (6 : Nat) ≠ 7 by decide)]
      exact ⟨a1, a2, a3, a4, a5, a6, Or.inr hv⟩
    · unfold PSt
      simp only [zI_s, zI_f (show (0 : Nat) ≠ 7 by decide), zI_f (show (2 : Nat) ≠ 7 by decide), zI_f (show (3 : Nat) ≠ 7 by decide), zI_f (show (6 : Nat) ≠ 7 by decide), zI_f (show (5 : Nat) ≠ 7 by decide)]
      exact ⟨⟨trivial, trivial⟩, Or.inr (Or.inr (Or.inr ⟨hn, by omega, q, ve, trivial, trivial, trivial⟩))⟩
  have f112 : ∀ v : Int, v = zA σ 12 1 (zI σ 14 4) → zA σ 12 0 (zI σ 14 4) = 4 → ((v = 3 ∨ v = 5) → ¬ zI σ g 6 = 0) → wpX8_part_112 g v σ Q := by
    intro v ve hn hb
    unfold wpX8_part_112 wpX8_part_139
    exact ⟨by omega, fun e => f124 v ve (Or.inl e) hn, fun q6 => ⟨fun q7 => h0 (by unfold PFl; omega), fun e => f124 v ve (Or.inr e) hn⟩⟩
  have f97 : ∀ v : Int, v = zA σ 12 1 (zI σ 14 4) → v = 3 ∨ v = 5 → zA σ 12 0 (zI σ 14 4) = 4 → wpX8_part_97 g v σ Q := by
    intro v ve hv hn
    unfold wpX8_part_97
    refine ⟨hg, by omega, fun q => f112 v ve hn (fun _ => q), fun q => f141 _ (by omega) ((OG.rf h).g hg) (ob_i (by omega)) ?_ ?_⟩
    · unfold OPB
      simp only [zI_g (show (11 : Int) ≠ g by omega), zI_s, zI_f (show (0 : Nat) ≠ 6 by decide), zI_f (show (3 : Nat) ≠ 6 by decide), zI_f (show (4 : Nat) ≠ 6 by decide), zI_f (show (5 : Nat) ≠ 6 by decide), zI_f (show (7 : Nat) ≠ 6 by decide)]
      exact ⟨a1, a2, a3, a4, a5, Or.inr hv, a7⟩
    · unfold PSt
      simp only [zI_s, zI_f (show (0 : Nat) ≠ 6 by decide), zI_f (show (2 : Nat) ≠ 6 by decide), zI_f (show (3 : Nat) ≠ 6 by decide), zI_f (show (7 : Nat) ≠ 6 by decide), zI_f (show (5 : Nat) ≠ 6 by decide)]
      exact ⟨⟨trivial, trivial⟩, Or.inr (Or.inr (Or.inl ⟨hn, by omega, q, ve, trivial, trivial, trivial⟩))⟩
  have f80 : ¬ zA σ 12 0 (zI σ 14 4) = 2 → ¬ (zA σ 12 0 (zI σ 14 4) = 3 ∧ zI σ g 3 < 0) → wpX8_part_80 g (zA σ 12 0 (zI σ 14 4)) (zA σ 12 1 (zI σ 14 4)) σ Q := by
    intro n2 n3
    unfold wpX8_part_80
    exact ⟨by omega, fun e => ⟨by omega, fun e' => f97 _ rfl (Or.inl e') e, fun q3 => ⟨fun q5 => f112 _ rfl e (fun z => by omega), fun e' => f97 _ rfl (Or.inr e') e⟩⟩, fun q => h0 (by unfold PFl; omega)⟩
  unfold wpX8_part
  refine ⟨h.at, by omega, fun n2 => ⟨fun n3 => f80 n2 (fun z => n3 z.1), fun e3 => ⟨hg, by omega, fun q => f80 n2 (fun z => by omega), fun q => f141 _ (by omega) (((OG.rf h).g hg).g hg) ((ob_i (by omega)).trans (ob_i (by omega))) ?_ ?_⟩⟩, fun e2 => ⟨hg, f141 _ (by omega) ((OG.rf h).g hg) (ob_i (by omega)) ?_ ?_⟩⟩
  · have := t4 e3
    unfold OPB
    simp only [zI_g (show (11 : Int) ≠ g by omega), zI_s, zI_f (show (0 : Nat) ≠ 4 by decide), zI_f (show (0 : Nat) ≠ 3 by decide), zI_f (show (3 : Nat) ≠ 4 by decide), zI_f (show (5 : Nat) ≠ 3 by decide), zI_f (show (5 : Nat) ≠ 4 by decide), zI_f (show (6 : Nat) ≠ 3 by decide), zI_f (show (6 : Nat) ≠ 4 by decide), zI_f (show (7 : Nat) ≠ 3 by decide), zI_f (show (7 : Nat) ≠ 4 by decide)]
    exact ⟨a1, by omega, fun _ => t3.1, by omega, a5, a6, a7⟩
  · unfold PSt
    simp only [zI_s, zI_f (show (0 : Nat) ≠ 4 by decide), zI_f (show (0 : Nat) ≠ 3 by decide), zI_f (show (3 : Nat) ≠ 4 by decide), zI_f (show (2 : Nat) ≠ 3 by decide), zI_f (show (2 : Nat) ≠ 4 by decide), zI_f (show (6 : Nat) ≠ 3 by decide), zI_f (show (6 : Nat) ≠ 4 by decide), zI_f (show (7 : Nat) ≠ 3 by decide), zI_f (show (7 : Nat) ≠ 4 by decide), zI_f (show (5 : Nat) ≠ 3 by decide), zI_f (show (5 : Nat) ≠ 4 by decide)]
    exact ⟨⟨trivial, trivial⟩, Or.inr (Or.inl ⟨e3, by omega, trivial, trivial, trivial, trivial⟩)⟩
  · unfold OPB
    simp only [zI_g (show (11 : Int) ≠ g by omega), zI_f (show (0 : Nat) ≠ 2 by decide), zI_f (show (3 : Nat) ≠ 2 by decide), zI_f (show (4 : Nat) ≠ 2 by decide), zI_f (show (5 : Nat) ≠ 2 by decide), zI_f (show (6 : Nat) ≠ 2 by decide), zI_f (show (7 : Nat) ≠ 2 by decide)]
    exact ⟨a1, a2, a3, a4, a5, a6, a7⟩
  · unfold PSt
    simp only [zI_s, zI_f (show (0 : Nat) ≠ 2 by decide), zI_f (show (3 : Nat) ≠ 2 by decide), zI_f (show (6 : Nat) ≠ 2 by decide), zI_f (show (7 : Nat) ≠ 2 by decide), zI_f (show (5 : Nat) ≠ 2 by decide)]
    exact ⟨⟨trivial, trivial⟩, Or.inl ⟨e2, trivial, trivial, trivial, trivial⟩⟩
def nm (n : Int) : List Int := if 0 ≤ n then [n] else []
/-- a register noted, or none -/
def RGr (c r : Int) : Prop := (c = 0 ∧ r = -1) ∨ (1 ≤ c ∧ r = c)
/-- memory as read so far, on both sides -/
def MmR (σ : ZS) (g : Int) (ρ : ZS) : Prop := zI ρ 0 37 = 2 ∧ zI ρ 0 38 = zI σ g 2 % 65536 ∧ zI ρ 0 39 = zI σ g 3 ∧ RGr (zI σ g 6) (zI ρ 0 41) ∧ RGr (zI σ g 7) (zI ρ 0 42)
/-- what the reference's part leaves, against the class behind its part -/
def MmS (σ τ : ZS) (g : Int) (ρ ρ' : ZS) : Prop := zI ρ' 0 37 = 2 ∧ zI ρ' 0 38 = zI ρ 0 38 ∧ zI ρ' 0 39 = zI τ g 3 ∧ RGr (zI τ g 6) (zI ρ' 0 41) ∧ RGr (zI τ g 7) (zI ρ' 0 42)
theorem r_part1 {h : Int → Int} {L g : Int} {E M : Int → Int} {σ τ ρ : ZS} {p0 : List Int} {Q : Int → ZS → Prop} (hC : CT h L E M σ) (hP : PS σ) (hS : SY h L E σ (zI σ 14 4) ρ) (hB : RB σ ρ (M (zI σ 14 4)) (p0 ++ nm (zI σ g 3))) (hF : Fresh ρ) (hM : MmR σ g ρ) (hO : OpU ρ) (hp : PSt σ g τ)
    (h1 : ∀ ρ' : ZS, SY h L E σ (zI σ 14 4) ρ' → RB σ ρ' (M (zI σ 14 4 + 1)) (p0 ++ nm (zI τ g 3)) → OpU ρ' → MmS σ τ g ρ ρ' → PR ρ ρ' → zI ρ' 0 31 = zI ρ 0 31 → zI ρ' 0 6 = zI ρ 0 6 → Q 1 ρ') : wpX11_part ρ Q := by
  have hG := hB.1
  have T := hS.2.2.2.2.f
  have i0 := hP.2.2.1.1
  have i1 : zI σ 14 4 < zI σ 12 3 := by have := hP.2.2.1; omega
  obtain ⟨m1, m2, m3, m4, m5⟩ := hM
  have l7 := hG.2.1.2.2.1
  have l9 := hG.2.1.2.2.2.1
  have l39 := hG.2.1.2.2.2.2.2.2.2.2.2.2.2.2.2.2.2.1
  have l41 := hG.2.1.2.2.2.2.2.2.2.2.2.2.2.2.2.2.2.2.1
  have l42 := hG.2.1.2.2.2.2.2.2.2.2.2.2.2.2.2.2.2.2.2.1
  obtain ⟨-, hp⟩ := hp
  unfold wpX11_part
  rcases hp with ⟨t, e2, e3, e6, e7⟩ | ⟨t, e0, e3, e2, e6, e7⟩ | ⟨t, tv, e0, e6, e2, e3, e7⟩ | ⟨t, tv, e0, e7, e2, e3, e6⟩
  · have t2 := T.2.1.mp t
    clear T
    refine ⟨by omega, fun q => absurd t2 q, fun _ => h1 ρ hS ?_ hO ⟨m1, rfl, by rw [e3]; exact m3, by rw [e6]; exact m4, by rw [e7]; exact m5⟩ PR.rf rfl rfl⟩
    rw [hC.m1 i0 i1 (by omega), e3]; exact hB
  · have tc := T.2.2.2.1.mp t
    clear T
    refine ⟨by omega, fun _ => ?_, fun q => by omega⟩
    refine r_isWord hG.2.1 (by decide) (fun q => by omega) (fun _ => ⟨by decide, fun q => absurd rfl q, fun _ => ?_⟩)
    refine r_isWord hG.2.1 (by decide) (fun q => by omega) (fun _ => ⟨by decide, fun _ => ?_, fun q => absurd rfl q⟩)
    refine r_isWord hG.2.1 (by decide) (fun q => by omega) (fun _ => ⟨by decide, fun _ => ?_, fun q => absurd rfl q⟩)
    refine r_isName hG.2.1 hS (fun _ => ⟨by decide, fun q => absurd q (by decide), fun _ => ⟨by omega, fun _ => ?_, fun q => absurd e0 (by omega)⟩⟩) (fun q => absurd t q)
    have hst := hG.2.2.1.2.1 (by omega)
    have hfr := hF tc.1
    have l2 := hG.2.1.2.1
    have l1 := hG.2.1.1
    refine r_name hC i0 i1 hS hB hF t (fun α aS aB af ap an => ?_)
    have bf : fr [39] [] α (zsI α 0 39 (zA σ 12 1 (zI σ 14 4))) := fr.rf.ti (by decide)
    have bG : GG (zsI α 0 39 (zA σ 12 1 (zI σ 14 4))) := GG_39 aB.1 (by omega)
    have a5 : zI α 0 5 = zI ρ 0 5 := af.1 5 (by decide)
    have a6 : zI α 0 6 = zI ρ 0 6 := af.1 6 (by decide)
    have a23 : zI α 0 23 = zI ρ 0 23 := af.1 23 (by decide)
    refine r_use (σ := σ) (aS.fr bf (by decide) (by decide) (by decide) (by decide) (by decide) (by decide) (by decide) (by decide)) (aB.fr bG bf (by decide) (by decide) (by decide) (by decide) (by decide) (by decide) (by decide)) ⟨an.1, an.2.1, by rw [bf.1 17 (by decide)]; exact an.2.2⟩ (by omega) (by rw [bf.1 23 (by decide), bf.1 5 (by decide)]; omega) (fun β bS bB bff bp bu => ?_)
    have b39 : zI β 0 39 = zA σ 12 1 (zI σ 14 4) := bff.1 39 (by decide)
    have b37 : zI β 0 37 = 2 := by rw [bff.1 37 (by decide), bf.1 37 (by decide), af.1 37 (by decide)]; exact m1
    refine h1 β bS ?_ ⟨fun _ _ => by rw [b39]; exact bu, fun q => by omega⟩ ⟨b37, ?_, by rw [b39, e3], ?_, ?_⟩ (ap.tr ((PR_op (by decide)).tr bp)) ?_ ?_
    · have n0 : nm (zI σ g 3) = [] := if_neg (by omega)
      have n1 : nm (zI τ g 3) = [zA σ 12 1 (zI σ 14 4)] := by rw [e3]; exact if_pos an.1
      rw [n0, List.append_nil] at bB
      rw [n1]; exact bB
    · rw [bff.1 38 (by decide), bf.1 38 (by decide), af.1 38 (by decide)]
    · rw [e6, bff.1 41 (by decide), bf.1 41 (by decide), af.1 41 (by decide)]; exact m4
    · rw [e7, bff.1 42 (by decide), bf.1 42 (by decide), af.1 42 (by decide)]; exact m5
    · rw [bff.1 31 (by decide), bf.1 31 (by decide), af.1 31 (by decide)]
    · rw [bff.1 6 (by decide), bf.1 6 (by decide), a6]
  · have tc := T.2.2.2.2.1.mp t
    have te := T.2.2.2.2.2.1 t
    clear T
    have f28 : wpX11_part_28 ρ Q := by
      unfold wpX11_part_28
      have r : zI ρ 0 41 = -1 := by unfold RGr at m4; omega
      refine ⟨by omega, fun _ => ?_, fun q => absurd r (by omega)⟩
      have bf : fr [41] [] ρ (zsI ρ 0 41 (zI ρ 0 9)) := fr.rf.ti (by decide)
      have bG : GG (zsI ρ 0 41 (zI ρ 0 9)) := GG_41 hG l9
      refine h1 _ (hS.fr bf (by decide) (by decide) (by decide) (by decide) (by decide) (by decide) (by decide) (by decide)) ?_ hO ⟨m1, rfl, by rw [e3]; exact m3, ?_, by rw [e7]; exact m5⟩ (PR_op (by decide)) rfl rfl
      · rw [hC.m1 i0 i1 (by omega), e3]
        exact hB.fr bG bf (by decide) (by decide) (by decide) (by decide) (by decide) (by decide) (by decide)
      · rw [e6]
        exact Or.inr ⟨by omega, te⟩
    refine ⟨by omega, fun _ => ?_, fun q => by omega⟩
    refine r_isWord hG.2.1 (by decide) (fun q => ⟨by decide, fun _ => f28, fun q => absurd q (by decide)⟩) (fun q1 => ⟨by decide, fun q => absurd rfl q, fun _ => ?_⟩)
    refine r_isWord hG.2.1 (by decide) (fun q => ⟨by decide, fun q => absurd q (by decide), fun _ => f28⟩) (fun q2 => by omega)
  · have tc := T.2.2.2.2.1.mp t
    have te := T.2.2.2.2.2.1 t
    clear T
    refine ⟨by omega, fun _ => ?_, fun q => by omega⟩
    refine r_isWord hG.2.1 (by decide) (fun q => by omega) (fun _ => ⟨by decide, fun q => absurd rfl q, fun _ => ?_⟩)
    refine r_isWord hG.2.1 (by decide) (fun q => by omega) (fun _ => ⟨by decide, fun _ => ?_, fun q => absurd rfl q⟩)
    have r : zI ρ 0 42 = -1 := by unfold RGr at m5; omega
    refine r_isWord hG.2.1 (by decide) (fun q => ⟨by decide, fun q => absurd q (by decide), fun _ => ⟨by omega, fun _ => ?_, fun q => absurd r (by omega)⟩⟩) (fun q => by omega)
    have bf : fr [42] [] ρ (zsI ρ 0 42 (zI ρ 0 9)) := fr.rf.ti (by decide)
    have bG : GG (zsI ρ 0 42 (zI ρ 0 9)) := GG_42 hG l9
    refine h1 _ (hS.fr bf (by decide) (by decide) (by decide) (by decide) (by decide) (by decide) (by decide) (by decide)) ?_ hO ⟨m1, rfl, by rw [e3]; exact m3, by rw [e6]; exact m4, ?_⟩ (PR_op (by decide)) rfl rfl
    · rw [hC.m1 i0 i1 (by omega), e3]
      exact hB.fr bG bf (by decide) (by decide) (by decide) (by decide) (by decide) (by decide) (by decide)
    · rw [e7]
      exact Or.inr ⟨by omega, te⟩
theorem r_part0 {h : Int → Int} {L g : Int} {E : Int → Int} {σ ρ : ZS} {Q : Int → ZS → Prop} (hG : GG ρ) (hS : SY h L E σ (zI σ 14 4) ρ) (hM : MmR σ g ρ) (hp : PFl σ g) (h0 : Q 0 ρ) : wpX11_part ρ Q := by
  have T := hS.2.2.2.2.f
  obtain ⟨m1, m2, m3, m4, m5⟩ := hM
  have l7 := hG.2.1.2.2.1
  have l39 := hG.2.1.2.2.2.2.2.2.2.2.2.2.2.2.2.2.2.1
  have l41 := hG.2.1.2.2.2.2.2.2.2.2.2.2.2.2.2.2.2.2.1
  have l42 := hG.2.1.2.2.2.2.2.2.2.2.2.2.2.2.2.2.2.2.2.1
  obtain ⟨p1, p2, p3, p4⟩ := hp
  have n2' : ¬ zI ρ 0 7 = 2 := fun q => p1 (T.2.1.mpr q)
  have hb : zI ρ 0 7 = 1 → (zI ρ 0 9 = 3 ∨ zI ρ 0 9 = 5) → ¬ zI ρ 0 41 < 0 := by
    intro q1 q2 q3
    have t4 := T.2.2.2.2.1.mpr ⟨q1, by omega, by omega⟩
    have te := T.2.2.2.2.2.1 t4
    clear T
    rcases m4 with ⟨m, -⟩ | ⟨m, m'⟩
    · exact p3 ⟨t4, by omega, m⟩
    · omega
  have hi : zI ρ 0 7 = 1 → (zI ρ 0 9 = 6 ∨ zI ρ 0 9 = 7) → ¬ zI ρ 0 42 < 0 := by
    intro q1 q2 q3
    have t4 := T.2.2.2.2.1.mpr ⟨q1, by omega, by omega⟩
    have te := T.2.2.2.2.2.1 t4
    clear T
    rcases m5 with ⟨m, -⟩ | ⟨m, m'⟩
    · exact p4 ⟨t4, by omega, m⟩
    · omega
  have hn : zA σ 12 0 (zI σ 14 4) = 3 → ¬ zI ρ 0 39 < 0 := fun q z => p2 ⟨q, by omega⟩
  clear T p1 p2 p3 p4 m4 m5 m1 m2 m3
  unfold wpX11_part wpX11_part_91
  refine ⟨by omega, fun n2 => ?_, fun q => absurd q n2'⟩
  have f28 : zI ρ 0 7 = 1 → (zI ρ 0 9 = 3 ∨ zI ρ 0 9 = 5) → wpX11_part_28 ρ Q := by
    intro q q'
    unfold wpX11_part_28
    exact ⟨by omega, fun z => absurd z (hb q q'), fun _ => h0⟩
  refine r_isWord hG.2.1 (by decide) (fun q => ⟨by decide, fun _ => f28 q.1 (by omega), fun q => absurd q (by decide)⟩) (fun q1 => ⟨by decide, fun q => absurd rfl q, fun _ => ?_⟩)
  refine r_isWord hG.2.1 (by decide) (fun q => ⟨by decide, fun q => absurd q (by decide), fun _ => f28 q.1 (by omega)⟩) (fun q2 => ⟨by decide, fun _ => ?_, fun q => absurd rfl q⟩)
  refine r_isWord hG.2.1 (by decide) (fun q => ⟨by decide, fun q => absurd q (by decide), fun _ => ⟨by omega, fun z => absurd z (hi q.1 (by omega)), fun _ => h0⟩⟩) (fun q3 => ⟨by decide, fun _ => ?_, fun q => absurd rfl q⟩)
  exact r_isName hG.2.1 hS (fun t => ⟨by decide, fun q => absurd q (by decide), fun _ => ⟨by omega, fun z => absurd z (hn t), fun _ => h0⟩⟩) (fun t => ⟨by decide, fun _ => h0, fun q => absurd rfl q⟩)
/-! X: memory on both sides, step by step -/
/-- class at σ, reference at ρ, while memory is read; ρ0 is where the reference began -/
def MmT (h : Int → Int) (L : Int) (E M : Int → Int) (g : Int) (p0 : List Int) (ρ0 σ ρ : ZS) : Prop := SY h L E σ (zI σ 14 4) ρ ∧ RB σ ρ (M (zI σ 14 4)) (p0 ++ nm (zI σ g 3)) ∧ Fresh ρ ∧ MmR σ g ρ ∧ OpU ρ ∧ PR ρ0 ρ ∧ zI ρ 0 31 = zI ρ0 0 31 ∧ zI ρ0 0 6 ≤ zI ρ 0 6
/-- the reference behind a part -/
def G97 (K : Int → Int → ZS → Prop) (Q : Int → ZS → Prop) (ρ : ZS) : Prop := (-2147483648 ≤ (zI ρ 0 7) ∧ (zI ρ 0 7) ≤ 2147483647) ∧ ((zI ρ 0 7) = 43 → wpX11_memoryOperand_119 K ρ Q) ∧ (¬ (zI ρ 0 7) = 43 → (¬ (zI ρ 0 7) = 45 → wpX11_memoryOperand_124 K 0 ρ Q) ∧ ((zI ρ 0 7) = 45 → wpX11_memoryOperand_119 K ρ Q))
/-- what a step of the class leaves alone -/
def LV (g : Int) (σ τ : ZS) : Prop := ob τ 11 = ob σ 11 ∧ ob τ 12 = ob σ 12 ∧ ob τ 13 = ob σ 13 ∧ zI τ 14 5 = zI σ 14 5
theorem OG.lv {g : Int} {σ τ : ZS} (hg : 5 ≤ g ∧ g ≤ 6) (k : OG g σ τ) : LV g σ τ := ⟨k.2.1 11 (m_no (by omega) (by decide)), k.2.1 12 (m_no (by omega) (by decide)), k.2.1 13 (m_no (by omega) (by decide)), k.2.2⟩
theorem r_97 {h : Int → Int} {L g : Int} {E M : Int → Int} {p0 : List Int} {σ τ ρ0 ρ : ZS} {K : Int → Int → ZS → Prop} {Q : Int → ZS → Prop} (hC : CT h L E M σ) (hP : PS σ) (hn : zA σ 12 0 (zI σ 14 4) ≠ 0) (lv : LV g σ τ) (ha : zI τ 14 4 = zI σ 14 4 + 1) (hS : SY h L E σ (zI σ 14 4) ρ) (hB : RB σ ρ (M (zI σ 14 4 + 1)) (p0 ++ nm (zI τ g 3))) (hM : MmR τ g ρ) (hO : OpU ρ) (hp : PR ρ0 ρ) (h31 : zI ρ 0 31 = zI ρ0 0 31) (h6 : zI ρ0 0 6 ≤ zI ρ 0 6) (hG : ∀ ρ' : ZS, MmT h L E M g p0 ρ0 τ ρ' → zI ρ0 0 6 + 1 ≤ zI ρ' 0 6 → G97 K Q ρ') : wpX11_memoryOperand_97 K ρ Q := by
  obtain ⟨v11, v12, v13, v5⟩ := lv
  have i0 := hP.2.2.1.1
  have i1 : zI σ 14 4 < zI σ 12 3 := by have := hP.2.2.1; omega
  unfold wpX11_memoryOperand_97
  refine r_next hC i0 i1 hS hB hn (fun γ cS' cB cF cf cp c1 c2 => hG γ ⟨?_, ?_, cF, ?_, ?_, hp.tr cp, ?_, ?_⟩ ?_)
  · rw [ha]; exact cS'.k v11 v12
  · rw [ha]; exact cB.k v11 v13 v5
  · obtain ⟨m1, m2, m3, m4, m5⟩ := hM
    exact ⟨by rw [cf.1 37 (by decide)]; exact m1, by rw [cf.1 38 (by decide)]; exact m2, by rw [cf.1 39 (by decide)]; exact m3, by rw [cf.1 41 (by decide)]; exact m4, by rw [cf.1 42 (by decide)]; exact m5⟩
  · exact hO.pr cp (cf.1 37 (by decide)) (cf.1 39 (by decide))
  · rw [cf.1 31 (by decide)]; exact h31
  · omega
  · omega
/-- the number of a part is added, or taken away -/
theorem r_60 {h : Int → Int} {L g s : Int} {E M : Int → Int} {p0 : List Int} {σ τ ρ0 ρ : ZS} {K : Int → Int → ZS → Prop} {Q : Int → ZS → Prop} (hC : CT h L E M σ) (hP : PS σ) (hs : s = 0 ∨ s = 1) (hn : zA σ 12 0 (zI σ 14 4) ≠ 0) (lv : LV g σ τ) (ha : zI τ 14 4 = zI σ 14 4 + 1) (hS : SY h L E σ (zI σ 14 4) ρ) (hB : RB σ ρ (M (zI σ 14 4 + 1)) (p0 ++ nm (zI τ g 3))) (h38 : zI ρ 0 38 = zI σ g 2 % 65536) (hM : zI ρ 0 37 = 2 ∧ zI ρ 0 39 = zI τ g 3 ∧ RGr (zI τ g 6) (zI ρ 0 41) ∧ RGr (zI τ g 7) (zI ρ 0 42)) (hO : OpU ρ) (hp : PR ρ0 ρ) (h31 : zI ρ 0 31 = zI ρ0 0 31) (h6 : zI ρ0 0 6 ≤ zI ρ 0 6)
    (h2 : zA σ 12 0 (zI σ 14 4) = 2 → zI τ g 2 = zI σ g 2 + (if s = 0 then zA σ 12 1 (zI σ 14 4) else -zA σ 12 1 (zI σ 14 4))) (h3 : zA σ 12 0 (zI σ 14 4) ≠ 2 → zI τ g 2 = zI σ g 2)
    (hG : ∀ ρ' : ZS, MmT h L E M g p0 ρ0 τ ρ' → zI ρ0 0 6 + 1 ≤ zI ρ' 0 6 → G97 K Q ρ') : wpX11_memoryOperand_60 K s ρ Q := by
  have T2 := hS.2.2.2.2.f.2.1
  have T2v := hS.2.2.2.2.f.2.2.1
  have gg := hB.1
  have l7 := gg.2.1.2.2.1
  obtain ⟨m1, m3, m4, m5⟩ := hM
  have f89 : ∀ a : Int, zI τ g 2 % 65536 = (zI ρ 0 38 + a) % 65536 → wpX11_memoryOperand_89 K a (zI ρ 0 38) ρ Q := by
    intro a e
    unfold wpX11_memoryOperand_89
    have bf : fr [38] [] ρ (zsI ρ 0 38 ((zI ρ 0 38 + a) % 65536)) := fr.rf.ti (by decide)
    have bG : GG (zsI ρ 0 38 ((zI ρ 0 38 + a) % 65536)) := GG_38 gg (by omega)
    exact r_97 hC hP hn lv ha (hS.fr bf (by decide) (by decide) (by decide) (by decide) (by decide) (by decide) (by decide) (by decide)) (hB.fr bG bf (by decide) (by decide) (by decide) (by decide) (by decide) (by decide) (by decide)) ⟨m1, e.symm, m3, m4, m5⟩ hO (hp.tr (PR_op (by decide))) h31 h6 hG
  unfold wpX11_memoryOperand_60
  refine ⟨by omega, fun n2 => ?_, fun y2 => ⟨by omega, fun z => f89 _ ?_, fun z => f89 _ ?_⟩⟩
  · exact r_97 hC hP hn lv ha hS hB ⟨m1, by rw [h38, h3 (fun q => n2 (T2.mp q))], m3, m4, m5⟩ hO hp h31 h6 hG
  · have t2 := T2.mpr y2
    rw [h2 t2, if_pos z, h38, T2v t2]; omega
  · have t2 := T2.mpr y2
    rw [h2 t2, if_neg z, h38, T2v t2]; omega
/-- a part on both sides -/
theorem r_segA {h : Int → Int} {L g : Int} {E M : Int → Int} {p0 : List Int} {σ τ ρ0 ρ : ZS} {K : Int → Int → ZS → Prop} {Q : Int → ZS → Prop} (hC : CT h L E M σ) (hP : PS σ) (lv : LV g σ τ) (ha : zI τ 14 4 = zI σ 14 4 + 1) (hps : PSt σ g τ) (hm : MmT h L E M g p0 ρ0 σ ρ) (hK : ∀ (a b : Int) (υ : ZS), wpbX11_memoryOperand_29 K a b υ Q → K a b υ) (hG : ∀ ρ' : ZS, MmT h L E M g p0 ρ0 τ ρ' → zI ρ0 0 6 + 1 ≤ zI ρ' 0 6 → G97 K Q ρ') : K 0 1 ρ := by
  obtain ⟨mS, mB, mF, mM, mO, mp, m31, m6⟩ := hm
  refine hK _ _ _ ?_
  unfold wpbX11_memoryOperand_29
  refine ⟨by decide, fun q => absurd q (by decide), fun _ => ⟨by decide, fun _ => ?_, fun q => absurd rfl q⟩⟩
  have hn : zA σ 12 0 (zI σ 14 4) ≠ 0 := by
    rcases hps.2 with ⟨t, -⟩ | ⟨t, -⟩ | ⟨t, -⟩ | ⟨t, -⟩ <;> omega
  refine r_part1 hC hP mS mB mF mM mO hps (fun β bS bB bO bM bp b31 b6 => ⟨by decide, fun _ => ?_, fun q => absurd q (by decide)⟩)
  obtain ⟨q1, q2, q3, q4, q5⟩ := bM
  refine r_60 hC hP (Or.inl rfl) hn lv ha bS bB (by rw [q2]; exact mM.2.1) ⟨q1, q3, q4, q5⟩ bO (mp.tr bp) (by rw [b31]; exact m31) (by rw [b6]; exact m6) (fun t => ?_) (fun t => ?_) hG
  · rw [if_pos rfl]
    rcases hps.2 with ⟨-, e, -⟩ | ⟨t', -⟩ | ⟨t', -⟩ | ⟨t', -⟩
    · exact e
    · omega
    · omega
    · omega
  · rcases hps.2 with ⟨t', -⟩ | ⟨-, -, -, e, -⟩ | ⟨-, -, -, -, e, -⟩ | ⟨-, -, -, -, e, -⟩
    · exact absurd t' t
    · exact e
    · exact e
    · exact e
theorem r_segA0 {h : Int → Int} {L g : Int} {E M : Int → Int} {p0 : List Int} {σ ρ0 ρ : ZS} {K : Int → Int → ZS → Prop} {Q : Int → ZS → Prop} (hps : PFl σ g) (hm : MmT h L E M g p0 ρ0 σ ρ) (hK : ∀ (a b : Int) (υ : ZS), wpbX11_memoryOperand_29 K a b υ Q → K a b υ) (h0 : ∀ ρ' : ZS, GG ρ' → PR ρ0 ρ' → Q 0 ρ') : K 0 1 ρ := by
  obtain ⟨mS, mB, mF, mM, mO, mp, m31, m6⟩ := hm
  refine hK _ _ _ ?_
  unfold wpbX11_memoryOperand_29
  refine ⟨by decide, fun q => absurd q (by decide), fun _ => ⟨by decide, fun _ => ?_, fun q => absurd rfl q⟩⟩
  refine r_part0 mB.1 mS mM hps ⟨by decide, fun q => absurd rfl q, fun _ => ?_⟩
  unfold wpX11_memoryOperand_55
  exact s_fault ⟨by decide, h0 _ (GG_34 mB.1) (mp.tr PR_fault)⟩
/-- a number behind a minus -/
theorem r_segB {h : Int → Int} {L g : Int} {E M : Int → Int} {p0 : List Int} {σ τ ρ0 ρ : ZS} {K : Int → Int → ZS → Prop} {Q : Int → ZS → Prop} (hC : CT h L E M σ) (hP : PS σ) (lv : LV g σ τ) (ha : zI τ 14 4 = zI σ 14 4 + 1) (t : zA σ 12 0 (zI σ 14 4) = 2) (e2 : zI τ g 2 = zI σ g 2 - zA σ 12 1 (zI σ 14 4)) (e3 : zI τ g 3 = zI σ g 3) (e6 : zI τ g 6 = zI σ g 6) (e7 : zI τ g 7 = zI σ g 7) (hm : MmT h L E M g p0 ρ0 σ ρ) (hK : ∀ (a b : Int) (υ : ZS), wpbX11_memoryOperand_29 K a b υ Q → K a b υ) (hG : ∀ ρ' : ZS, MmT h L E M g p0 ρ0 τ ρ' → zI ρ0 0 6 + 1 ≤ zI ρ' 0 6 → G97 K Q ρ') : K 1 1 ρ := by
  obtain ⟨mS, mB, mF, mM, mO, mp, m31, m6⟩ := hm
  have T2 := mS.2.2.2.2.f.2.1.mp t
  have i0 := hP.2.2.1.1
  have i1 : zI σ 14 4 < zI σ 12 3 := by have := hP.2.2.1; omega
  refine hK _ _ _ ?_
  unfold wpbX11_memoryOperand_29
  refine ⟨by decide, fun q => absurd q (by decide), fun _ => ⟨by decide, fun q => absurd q (by decide), fun _ => ⟨by omega, fun _ => ?_, fun q => absurd T2 q⟩⟩⟩
  obtain ⟨q1, q2, q3, q4, q5⟩ := mM
  refine r_60 hC hP (Or.inr rfl) (by omega) lv ha mS (by rw [hC.m1 i0 i1 (by omega), e3]; exact mB) q2 ⟨q1, by rw [e3]; exact q3, by rw [e6]; exact q4, by rw [e7]; exact q5⟩ mO mp m31 m6 (fun _ => ?_) (fun n => absurd t n) hG
  rw [if_neg (by decide), e2]; omega
theorem r_segB0 {h : Int → Int} {L g : Int} {E M : Int → Int} {p0 : List Int} {σ ρ0 ρ : ZS} {K : Int → Int → ZS → Prop} {Q : Int → ZS → Prop} (t : zA σ 12 0 (zI σ 14 4) ≠ 2) (hm : MmT h L E M g p0 ρ0 σ ρ) (hK : ∀ (a b : Int) (υ : ZS), wpbX11_memoryOperand_29 K a b υ Q → K a b υ) (h0 : ∀ ρ' : ZS, GG ρ' → PR ρ0 ρ' → Q 0 ρ') : K 1 1 ρ := by
  obtain ⟨mS, mB, mF, mM, mO, mp, m31, m6⟩ := hm
  have T2 := mS.2.2.2.2.f.2.1
  have l7 := mB.1.2.1.2.2.1
  refine hK _ _ _ ?_
  unfold wpbX11_memoryOperand_29 wpX11_memoryOperand_55
  exact ⟨by decide, fun q => absurd q (by decide), fun _ => ⟨by decide, fun q => absurd q (by decide), fun _ => ⟨by omega, fun q => absurd (T2.mpr q) t, fun _ => s_fault ⟨by decide, h0 _ (GG_34 mB.1) (mp.tr PR_fault)⟩⟩⟩⟩
/-- a plus or a minus -/
theorem r_segC {h : Int → Int} {L g : Int} {E M : Int → Int} {p0 : List Int} {σ τ ρ0 ρ : ZS} {K : Int → Int → ZS → Prop} {Q : Int → ZS → Prop} (hC : CT h L E M σ) (hP : PS σ) (lv : LV g σ τ) (ha : zI τ 14 4 = zI σ 14 4 + 1) (e2 : zI τ g 2 = zI σ g 2) (e3 : zI τ g 3 = zI σ g 3) (e6 : zI τ g 6 = zI σ g 6) (e7 : zI τ g 7 = zI σ g 7) (hm : MmT h L E M g p0 ρ0 σ ρ) (s : Int) (hs : (s = 0 ∧ zA σ 12 0 (zI σ 14 4) = 43) ∨ (s = 1 ∧ zA σ 12 0 (zI σ 14 4) = 45)) (hG : ∀ ρ' : ZS, MmT h L E M g p0 ρ0 τ ρ' → K s 1 ρ') : G97 K Q ρ := by
  obtain ⟨mS, mB, mF, mM, mO, mp, m31, m6⟩ := hm
  obtain ⟨v11, v12, v13, v5⟩ := lv
  have S43 := mS.2.2.2.2.sg (a := 43) (by unfold cS; omega)
  have S45 := mS.2.2.2.2.sg (a := 45) (by unfold cS; omega)
  have i0 := hP.2.2.1.1
  have i1 : zI σ 14 4 < zI σ 12 3 := by have := hP.2.2.1; omega
  have l7 := mB.1.2.1.2.2.1
  have go : wpX11_next ρ (fun σ7 => K s 1 σ7) := by
    refine r_next hC i0 i1 mS mB (by omega) (fun γ cS' cB cF cf cp c1 c2 => hG γ ⟨?_, ?_, cF, ?_, ?_, mp.tr cp, ?_, by omega⟩)
    · rw [ha]; exact cS'.k v11 v12
    · rw [ha, hC.m1 i0 i1 (by omega), e3]; exact cB.k v11 v13 v5
    · obtain ⟨m1, m2, m3, m4, m5⟩ := mM
      exact ⟨by rw [cf.1 37 (by decide)]; exact m1, by rw [cf.1 38 (by decide), e2]; exact m2, by rw [cf.1 39 (by decide), e3]; exact m3, by rw [cf.1 41 (by decide), e6]; exact m4, by rw [cf.1 42 (by decide), e7]; exact m5⟩
    · exact mO.pr cp (cf.1 37 (by decide)) (cf.1 39 (by decide))
    · rw [cf.1 31 (by decide)]; exact m31
  have f : wpX11_memoryOperand_119 K ρ Q := by
    unfold wpX11_memoryOperand_119 wpX11_memoryOperand_124 wpX11_memoryOperand_139
    rcases hs with ⟨s0, t⟩ | ⟨s0, t⟩
    · subst s0
      exact ⟨by omega, fun _ => ⟨by decide, fun q => absurd q (by decide), fun _ => go⟩, fun q => by have := S45.mp q; omega⟩
    · subst s0
      exact ⟨by omega, fun q => absurd (S45.mpr t) q, fun _ => ⟨by decide, fun q => absurd q (by decide), fun _ => go⟩⟩
  refine ⟨by omega, fun _ => f, fun n => ⟨fun n' => ?_, fun _ => f⟩⟩
  rcases hs with ⟨-, t⟩ | ⟨-, t⟩
  · exact absurd (S43.mpr t) n
  · exact absurd (S45.mpr t) n'
/-- the end of memory -/
theorem r_segD {h : Int → Int} {L g : Int} {E M : Int → Int} {p0 : List Int} {σ ρ0 ρ : ZS} {K : Int → Int → ZS → Prop} {Q : Int → ZS → Prop} (hC : CT h L E M σ) (hP : PS σ) (hm : MmT h L E M g p0 ρ0 σ ρ) (n43 : zA σ 12 0 (zI σ 14 4) ≠ 43) (n45 : zA σ 12 0 (zI σ 14 4) ≠ 45) (hK : ∀ (a b : Int) (υ : ZS), wpbX11_memoryOperand_29 K a b υ Q → K a b υ)
    (h1 : zA σ 12 0 (zI σ 14 4) = 93 → ∀ ρ' : ZS, SY h L E σ (zI σ 14 4 + 1) ρ' → RB σ ρ' (M (zI σ 14 4 + 1)) (p0 ++ nm (zI σ g 3)) → Opd ρ0 1 ρ' → MmR σ g ρ' → Q 1 ρ') (h0 : zA σ 12 0 (zI σ 14 4) ≠ 93 → ∀ ρ' : ZS, GG ρ' → PR ρ0 ρ' → Q 0 ρ') : G97 K Q ρ := by
  obtain ⟨mS, mB, mF, mM, mO, mp, m31, m6⟩ := hm
  have S43 := mS.2.2.2.2.sg (a := 43) (by unfold cS; omega)
  have S45 := mS.2.2.2.2.sg (a := 45) (by unfold cS; omega)
  have i0 := hP.2.2.1.1
  have i1 : zI σ 14 4 < zI σ 12 3 := by have := hP.2.2.1; omega
  have l7 := mB.1.2.1.2.2.1
  refine ⟨by omega, fun q => absurd (S43.mp q) n43, fun _ => ⟨fun _ => ?_, fun q => absurd (S45.mp q) n45⟩⟩
  unfold wpX11_memoryOperand_124 wpX11_memoryOperand_139
  refine ⟨by omega, fun _ => ⟨by decide, fun _ => hK _ _ _ ?_, fun q => absurd rfl q⟩, fun q => absurd (S45.mp q) n45⟩
  unfold wpbX11_memoryOperand_29
  refine ⟨by decide, fun _ => ?_, fun q => absurd rfl q⟩
  refine r_take hC i0 i1 mS mB (by unfold cS; omega) (fun t γ cS' cB cF cf cp c1 c2 => ⟨by decide, h1 t γ cS' ?_ ⟨cB.1, mp.tr cp, ?_, Or.inr rfl, fun _ => ⟨by omega, ?_, cF⟩⟩ ?_⟩) (fun t => ⟨by decide, h0 t _ (GG_34 mB.1) (mp.tr PR_fault)⟩)
  · rw [hC.m1 i0 i1 (by omega)]; exact cB
  · rw [cf.1 31 (by decide)]; exact m31
  · exact mO.pr cp (cf.1 37 (by decide)) (cf.1 39 (by decide))
  · obtain ⟨m1, m2, m3, m4, m5⟩ := mM
    exact ⟨by rw [cf.1 37 (by decide)]; exact m1, by rw [cf.1 38 (by decide)]; exact m2, by rw [cf.1 39 (by decide)]; exact m3, by rw [cf.1 41 (by decide)]; exact m4, by rw [cf.1 42 (by decide)]; exact m5⟩
/-! X: operands on both sides -/
theorem CT.pk {h : Int → Int} {L i : Int} {E M : Int → Int} {σ : ZS} (k : CT h L E M σ) (i0 : 0 ≤ i) : ∀ n : Nat, i + n < zI σ 12 3 → zA σ 12 2 i + n ≤ zA σ 12 2 (i + n)
  | 0, _ => by rw [show i + ((0 : Nat) : Int) = i by omega]; omega
  | n + 1, hn => by
    have ih := k.pk i0 n (by omega)
    have := (k.pl (i := i + n) (by omega) (by omega) (k.1.2.2.2.2.1 (i + n) (by omega) (by omega))).1
    rw [show i + ((n + 1 : Nat) : Int) = i + n + 1 by omega]
    omega
/-- an operand on both sides -/
def OR (τ : ZS) (g : Int) (ρ : ZS) : Prop := (zI τ g 0 = 1 ∧ zI ρ 0 37 = 0 ∧ zI ρ 0 38 = zI τ g 1 ∧ 0 ≤ zI τ g 1 ∧ zI τ g 1 < 8 ∧ zI τ g 3 = -1) ∨ (zI τ g 0 = 8 ∧ zI ρ 0 37 = 1 ∧ zI ρ 0 38 = zI τ g 1 ∧ 0 ≤ zI τ g 1 ∧ zI τ g 1 < 4 ∧ zI τ g 3 = -1) ∨ (zI τ g 0 = 2 ∧ MmR τ g ρ ∧ 0 ≤ zI τ g 2 ∧ zI τ g 2 < 65536 ∧ zI τ g 5 = 0) ∨ (zI τ g 0 = 4 ∧ ((zI τ g 3 = -1 ∧ zI ρ 0 37 = 3 ∧ zI ρ 0 38 = zI τ g 2) ∨ (0 ≤ zI τ g 3 ∧ zI τ g 2 = 0 ∧ zI ρ 0 39 = zI τ g 3 ∧ ((zI τ g 5 = 0 ∧ zI ρ 0 37 = 4) ∨ (zI τ g 5 = 1 ∧ zI ρ 0 37 = 5)))))
theorem x_brackets {h : Int → Int} {L g : Int} {E M : Int → Int} {σ : ZS} {Q : Int → ZS → Prop} (hg : 5 ≤ g ∧ g ≤ 6) (hP : PS σ) (hC : CT h L E M σ) (hn : zA σ 12 0 (zI σ 14 4) ≠ 0)
    (h1 : ∀ τ : ZS, OG g σ τ → OPI τ g → zI τ g 0 = 2 → zI σ 14 4 + 3 ≤ zI τ 14 4 → (∀ (ρ0 ρ : ZS) (p0 : List Int) (Qr : Int → ZS → Prop), SY h L E σ (zI σ 14 4 + 1) ρ → RB σ ρ (M (zI σ 14 4 + 1)) p0 → Fresh ρ → PR ρ0 ρ → zI ρ 0 31 = zI ρ0 0 31 → zI ρ0 0 6 ≤ zI ρ 0 6 → (∀ ρ' : ZS, SY h L E τ (zI τ 14 4) ρ' → RB τ ρ' (M (zI τ 14 4)) (p0 ++ nm (zI τ g 3)) → Opd ρ0 1 ρ' → OR τ g ρ' → Qr 1 ρ') → wpX11_memoryOperand ρ Qr) → Q 1 τ)
    (h0 : ∀ τ : ZS, OG g σ τ → (∀ (ρ0 ρ : ZS) (p0 : List Int) (Qr : Int → ZS → Prop), SY h L E σ (zI σ 14 4 + 1) ρ → RB σ ρ (M (zI σ 14 4 + 1)) p0 → Fresh ρ → PR ρ0 ρ → zI ρ 0 31 = zI ρ0 0 31 → zI ρ0 0 6 ≤ zI ρ 0 6 → (∀ ρ' : ZS, GG ρ' → PR ρ0 ρ' → Qr 0 ρ') → wpX11_memoryOperand ρ Qr) → Q 0 τ) : wpX8_brackets g σ Q := by
  unfold wpX8_brackets
  refine ⟨hg, x_clear hg hP (by decide) (fun τ0 og0 oi0 ff e14 => ?_)⟩
  obtain ⟨f0, f2, f3, f5, f6, f7⟩ := ff
  have a0 : zI τ0 14 4 = zI σ 14 4 := ob_I e14 4
  have hn0 : zA τ0 12 0 (zI τ0 14 4) ≠ 0 := by
    rw [og0.2.1.A (m_no (by omega) (by decide)) 0, a0]; exact hn
  have og1 := og0.on hn0
  have sf : ∀ f : Nat, zI (zsI τ0 14 4 (zI τ0 14 4 + 1)) g f = zI τ0 g f := fun f => zI_g (by omega)
  have a1 : zI (zsI τ0 14 4 (zI τ0 14 4 + 1)) 14 4 = zI σ 14 4 + 1 := by rw [zI_s, a0]
  have lv1 := og1.lv hg
  have hC1 := hC.k lv1.1 lv1.2.1
  -- where the reference's loop begins
  have start : ∀ (ρ0 ρ : ZS) (p0 : List Int), SY h L E σ (zI σ 14 4 + 1) ρ → RB σ ρ (M (zI σ 14 4 + 1)) p0 → Fresh ρ → PR ρ0 ρ → zI ρ 0 31 = zI ρ0 0 31 → zI ρ0 0 6 ≤ zI ρ 0 6 → MmT h L E M g p0 ρ0 (zsI τ0 14 4 (zI τ0 14 4 + 1)) (zsI (zsI (zsI (zsI (zsI ρ 0 37 2) 0 38 0) 0 39 (-1)) 0 41 (-1)) 0 42 (-1)) := by
    intro ρ0 ρ p0 rS rB rF rp r31 r6
    have bf : fr [37, 38, 39, 41, 42] [] ρ (zsI (zsI (zsI (zsI (zsI ρ 0 37 2) 0 38 0) 0 39 (-1)) 0 41 (-1)) 0 42 (-1)) := ((((fr.rf.ti (by decide)).ti (by decide)).ti (by decide)).ti (by decide)).ti (by decide)
    have bG : GG (zsI (zsI (zsI (zsI (zsI ρ 0 37 2) 0 38 0) 0 39 (-1)) 0 41 (-1)) 0 42 (-1)) := GG_ops rB.1 (by decide) (by decide) (by decide) (by decide) (by decide)
    have n0 : nm (zI (zsI τ0 14 4 (zI τ0 14 4 + 1)) g 3) = [] := by rw [sf, f3]; rfl
    refine ⟨?_, ?_, rF, ⟨rfl, ?_, ?_, ?_, ?_⟩, ⟨fun _ q => absurd (show (0 : Int) ≤ -1 from q) (by decide), fun q => absurd (show (4 : Int) ≤ 2 from q) (by decide)⟩, rp.tr PR_ops, r31, r6⟩
    · rw [a1]
      exact (rS.fr bf (by decide) (by decide) (by decide) (by decide) (by decide) (by decide) (by decide) (by decide)).k lv1.1 lv1.2.1
    · rw [a1, n0, List.append_nil]
      exact (rB.fr bG bf (by decide) (by decide) (by decide) (by decide) (by decide) (by decide) (by decide)).k lv1.1 lv1.2.2.1 lv1.2.2.2
    · rw [sf, f2]; rfl
    · rw [sf, f3]; rfl
    · rw [sf, f6]; exact Or.inl ⟨rfl, rfl⟩
    · rw [sf, f7]; exact Or.inl ⟨rfl, rfl⟩
  refine x_part hg og1.1 (oi0.1.k (ob_i (by decide)) (ob_i (by omega))) (fun τ2 og2 ob2 at2 ps2 => ⟨by decide, fun _ => ?_, fun q => absurd q (by decide)⟩) (fun pf => ⟨by decide, fun q => absurd rfl q, fun _ => h0 _ og1 (fun ρ0 ρ p0 Qr rS rB rF rp r31 r6 rQ => ?_)⟩)
  rotate_left
  · unfold wpX11_memoryOperand wpX11_memoryOperand_29
    intro P hPP
    exact r_segA0 pf (start ρ0 ρ p0 rS rB rF rp r31 r6) hPP rQ
  have lv2 := og2.lv hg
  -- what the reference owes at a head of the class's loop
  have f117 : ∀ τ : ZS, OG g σ τ → OPB τ g → (zI τ g 0 = 2 ∧ zI τ g 5 = 0) → zI σ 14 4 + 2 ≤ zI τ 14 4 → zA τ 12 0 (zI τ 14 4) = 93 → (∀ (ρ0 : ZS) (p0 : List Int) (Qr : Int → ZS → Prop) (K : Int → Int → ZS → Prop), (∀ (a b : Int) (υ : ZS), wpbX11_memoryOperand_29 K a b υ Qr → K a b υ) → (∀ ρ' : ZS, MmT h L E M g p0 ρ0 τ ρ' → G97 K Qr ρ') → ∀ ρ : ZS, MmT h L E M g p0 ρ0 (zsI τ0 14 4 (zI τ0 14 4 + 1)) ρ → K 0 1 ρ) → wpX8_brackets_117 g τ Q := by
    intro τ og oo k0 ha t93 tr
    have lv := og.lv hg
    have hCτ := hC.k lv.1 lv.2.1
    unfold wpX8_brackets_117
    have og' := og.g (f := 2) (v := zI τ g 2 % 65536) hg
    have oi' : OPI (zsI τ g 2 (zI τ g 2 % 65536)) g := ⟨oo.n2 hg, by rw [zI_s]; omega⟩
    have t93' : zA (zsI τ g 2 (zI τ g 2 % 65536)) 12 0 (zI (zsI τ g 2 (zI τ g 2 % 65536)) 14 4) = 93 := by
      rw [zI_g (show (14 : Int) ≠ g by omega)]; exact t93
    refine ⟨hg, c_take og'.1 (by decide) (fun e p => ⟨by decide, ?_⟩) (fun n => absurd t93' n)⟩
    have og3 := og'.on (by omega)
    have e4 : zI (zsI (zsI τ g 2 (zI τ g 2 % 65536)) 14 4 (zI (zsI τ g 2 (zI τ g 2 % 65536)) 14 4 + 1)) 14 4 = zI τ 14 4 + 1 := by
      rw [zI_s, zI_g (show (14 : Int) ≠ g by omega)]
    have ef : ∀ f : Nat, f ≠ 2 → zI (zsI (zsI τ g 2 (zI τ g 2 % 65536)) 14 4 (zI (zsI τ g 2 (zI τ g 2 % 65536)) 14 4 + 1)) g f = zI τ g f := fun f hf => by
      rw [zI_g (show g ≠ 14 by omega), zI_f hf]
    have e2 : zI (zsI (zsI τ g 2 (zI τ g 2 % 65536)) 14 4 (zI (zsI τ g 2 (zI τ g 2 % 65536)) 14 4 + 1)) g 2 = zI τ g 2 % 65536 := by
      rw [zI_g (show g ≠ 14 by omega), zI_s]
    refine h1 _ og3 (oi'.k (ob_i (by decide)) (ob_i (by omega))) (by rw [ef 0 (by decide)]; exact k0.1) (by rw [e4]; omega) (fun ρ0 ρ p0 Qr rS rB rF rp r31 r6 rQ => ?_)
    unfold wpX11_memoryOperand wpX11_memoryOperand_29
    intro P hPP
    refine tr ρ0 p0 Qr P hPP (fun ρ' hm => ?_) _ (start ρ0 ρ p0 rS rB rF rp r31 r6)
    refine r_segD hCτ og.1 hm (by omega) (by omega) hPP (fun _ ρ'' sS sB sO sM => ?_) (fun n => absurd t93 n)
    have lv3 := og3.lv hg
    have w11 := lv3.1.trans lv.1.symm
    have w12 := lv3.2.1.trans lv.2.1.symm
    have w13 := lv3.2.2.1.trans lv.2.2.1.symm
    have w5 := lv3.2.2.2.trans lv.2.2.2.symm
    refine rQ ρ'' ?_ ?_ sO (Or.inr (Or.inr (Or.inl ⟨by rw [ef 0 (by decide)]; exact k0.1, ?_, by rw [e2]; omega, by rw [e2]; omega, by rw [ef 5 (by decide)]; exact k0.2⟩)))
    · rw [e4]; exact sS.k w11 w12
    · rw [e4, ef 3 (by decide)]; exact sB.k w11 w13 w5
    · obtain ⟨m1, m2, m3, m4, m5⟩ := sM
      exact ⟨m1, by rw [e2, m2]; omega, by rw [ef 3 (by decide)]; exact m3, by rw [ef 6 (by decide)]; exact m4, by rw [ef 7 (by decide)]; exact m5⟩
  unfold wpX8_brackets_27
  refine lfp1_ind (fun v _ => (481 - v).toNat) (fun v τ => OG g σ τ ∧ OPB τ g ∧ (0 ≤ v ∧ v ≤ 481) ∧ (zI τ g 0 = 2 ∧ zI τ g 5 = 0) ∧ zI τ 14 4 = zI σ 14 4 + 2 + 2 * v ∧ (∀ (ρ0 : ZS) (p0 : List Int) (Qr : Int → ZS → Prop) (K : Int → Int → ZS → Prop), (∀ (a b : Int) (υ : ZS), wpbX11_memoryOperand_29 K a b υ Qr → K a b υ) → (∀ ρ' : ZS, MmT h L E M g p0 ρ0 τ ρ' → G97 K Qr ρ') → ∀ ρ : ZS, MmT h L E M g p0 ρ0 (zsI τ0 14 4 (zI τ0 14 4 + 1)) ρ → K 0 1 ρ)) (fun K v τ hI ih => ?_) ⟨og1.tr og2, ob2, by decide, ?_, ?_, fun ρ0 p0 Qr K hK hG ρ hm => ?_⟩
  rotate_left
  · rw [ps2.1.1, ps2.1.2, sf, sf]; exact ⟨f0, f5⟩
  · rw [at2, a1]; omega
  · exact r_segA hC1 og1.1 lv2 at2 ps2 hm hK (fun ρ' m _ => hG ρ' m)
  obtain ⟨og, oo, v0, k0, ha, tr⟩ := hI
  have hz := og.1.1.1
  have ht := og.1.tk.1
  have hat := og.1.2.2.1
  have i0 := hP.2.2.1.1
  have lv := og.lv hg
  have hCτ := hC.k lv.1 lv.2.1
  -- a failure of the class is one of the reference
  have bad : ∀ υ : ZS, OG g σ υ → (∀ (ρ0 : ZS) (p0 : List Int) (Qr : Int → ZS → Prop) (K : Int → Int → ZS → Prop), (∀ (a b : Int) (υ : ZS), wpbX11_memoryOperand_29 K a b υ Qr → K a b υ) → (∀ ρ' : ZS, GG ρ' → PR ρ0 ρ' → Qr 0 ρ') → ∀ ρ' : ZS, MmT h L E M g p0 ρ0 τ ρ' → G97 K Qr ρ') → Q 0 υ := by
    intro υ ug hh
    refine h0 υ ug (fun ρ0 ρ p0 Qr rS rB rF rp r31 r6 rQ => ?_)
    unfold wpX11_memoryOperand wpX11_memoryOperand_29
    intro P hPP
    exact tr ρ0 p0 Qr P hPP (hh ρ0 p0 Qr P hPP rQ) _ (start ρ0 ρ p0 rS rB rF rp r31 r6)
  unfold wpbX8_brackets_27 wpX8_brackets_109 wpX8_brackets_111
  refine ⟨by omega, by omega, fun q => by omega, fun a => c_type og.1 ⟨by omega, fun t93 => f117 τ og oo k0 (by omega) t93 tr, fun n93 => c_take og.1 (by decide) (fun e45 p => ⟨by decide, fun q => absurd q (by decide), fun _ => ?_⟩) (fun n45 => ⟨by decide, fun _ => c_take og.1 (by decide) (fun e43 p => ⟨by decide, fun q => absurd q (by decide), fun _ => ?_⟩) (fun n43 => ⟨by decide, fun _ => bad _ og (fun ρ0 p0 Qr K hK rQ ρ' hm => r_segD hCτ og.1 hm n43 n45 hK (fun t => absurd t n93) (fun _ => rQ)), fun q => absurd rfl q⟩), fun q => absurd rfl q⟩)⟩⟩
  · have og' := og.on (show zA τ 12 0 (zI τ 14 4) ≠ 0 by omega)
    have oo' : OPB (zsI τ 14 4 (zI τ 14 4 + 1)) g := oo.k (ob_i (by decide)) (ob_i (by omega))
    have s1 : ∀ f : Nat, zI (zsI τ 14 4 (zI τ 14 4 + 1)) g f = zI τ g f := fun f => zI_g (by omega)
    have lv' : LV g τ (zsI τ 14 4 (zI τ 14 4 + 1)) := ⟨ob_i (by decide), ob_i (by decide), ob_i (by decide), zI_f (by decide)⟩
    have hC' := hCτ.k lv'.1 lv'.2.1
    have ht' := og'.1.tk.1
    refine c_type og'.1 ⟨by omega, fun e2 => ⟨hg, c_value og'.1 ?_⟩, fun n2 => bad _ og' (fun ρ0 p0 Qr K hK rQ ρ' hm => r_segC hCτ og.1 lv' zI_s (s1 2) (s1 3) (s1 6) (s1 7) hm 1 (Or.inr ⟨rfl, e45⟩) (fun ρ'' hm' => r_segB0 n2 hm' hK rQ))⟩
    have og5 := og'.g (f := 2) (v := zI (zsI τ 14 4 (zI τ 14 4 + 1)) g 2 - zA (zsI τ 14 4 (zI τ 14 4 + 1)) 12 1 (zI (zsI τ 14 4 (zI τ 14 4 + 1)) 14 4)) hg
    have r := og5.on (by
      rw [zI_g (show (14 : Int) ≠ g by omega)]
      show zA (zsI τ 14 4 (zI τ 14 4 + 1)) 12 0 (zI (zsI τ 14 4 (zI τ 14 4 + 1)) 14 4) ≠ 0
      omega)
    rw [zI_g (show (14 : Int) ≠ g by omega)] at r
    have sx : ∀ (υ : ZS) (w y : Int) (f : Nat), f ≠ 2 → zI (zsI (zsI υ g 2 w) 14 4 y) g f = zI υ g f := fun υ w y f hf => by
      rw [zI_g (show g ≠ 14 by omega), zI_f hf]
    refine ih _ _ ⟨r, (oo'.n2 hg).k (ob_i (by decide)) (ob_i (by omega)), by omega, ?_, ?_, fun ρ0 p0 Qr K hK hG ρ hm => tr ρ0 p0 Qr K hK (fun ρ' hm' => r_segC hCτ og.1 lv' zI_s (s1 2) (s1 3) (s1 6) (s1 7) hm' 1 (Or.inr ⟨rfl, e45⟩) (fun ρ'' hm2 => r_segB hC' og'.1 ?_ ?_ e2 ?_ ?_ ?_ ?_ hm2 hK (fun ρ3 m _ => hG ρ3 m))) ρ hm⟩ (by omega)
    · rw [sx _ _ _ 0 (by decide), sx _ _ _ 5 (by decide), s1, s1]; exact k0
    · rw [zI_s, zI_s, ha]; omega
    · exact ⟨(ob_i (by decide)).trans (ob_i (by omega)), (ob_i (by decide)).trans (ob_i (by omega)), (ob_i (by decide)).trans (ob_i (by omega)), (zI_f (by decide)).trans (zI_g (by omega))⟩
    · rw [zI_s]
    · rw [zI_g (show g ≠ 14 by omega), zI_s]
    · exact sx _ _ _ 3 (by decide)
    · exact sx _ _ _ 6 (by decide)
    · exact sx _ _ _ 7 (by decide)
  · have og' := og.on (show zA τ 12 0 (zI τ 14 4) ≠ 0 by omega)
    have oo' : OPB (zsI τ 14 4 (zI τ 14 4 + 1)) g := oo.k (ob_i (by decide)) (ob_i (by omega))
    have s1 : ∀ f : Nat, zI (zsI τ 14 4 (zI τ 14 4 + 1)) g f = zI τ g f := fun f => zI_g (by omega)
    have lv' : LV g τ (zsI τ 14 4 (zI τ 14 4 + 1)) := ⟨ob_i (by decide), ob_i (by decide), ob_i (by decide), zI_f (by decide)⟩
    have hC' := hCτ.k lv'.1 lv'.2.1
    refine x_part hg og'.1 oo' (fun υ ug uo ua up => ⟨by decide, fun _ => ih _ _ ⟨og'.tr ug, uo, by omega, ?_, ?_, fun ρ0 p0 Qr K hK hG ρ hm => tr ρ0 p0 Qr K hK (fun ρ' hm' => r_segC hCτ og.1 lv' zI_s (s1 2) (s1 3) (s1 6) (s1 7) hm' 0 (Or.inl ⟨rfl, e43⟩) (fun ρ'' hm2 => r_segA hC' og'.1 (ug.lv hg) ua up hm2 hK (fun ρ3 m _ => hG ρ3 m))) ρ hm⟩ (by omega), fun q => absurd q (by decide)⟩) (fun pf => ⟨by decide, fun q => absurd rfl q, fun _ => bad _ og' (fun ρ0 p0 Qr K hK rQ ρ' hm => r_segC hCτ og.1 lv' zI_s (s1 2) (s1 3) (s1 6) (s1 7) hm 0 (Or.inl ⟨rfl, e43⟩) (fun ρ'' hm' => r_segA0 pf hm' hK rQ))⟩)
    · rw [up.1.1, up.1.2, s1, s1]; exact k0
    · rw [ua, zI_s, ha]; omega
/-! X: any operand on both sides -/
/-- a plain value -/
def VRs (σ : ZS) (g : Int) (τ : ZS) : Prop := zI τ g 0 = 4 ∧ ((zA σ 12 0 (zI σ 14 4) = 2 ∧ zI τ 14 4 = zI σ 14 4 + 1 ∧ zI τ g 3 = -1 ∧ zI τ g 2 = zA σ 12 1 (zI σ 14 4)) ∨ (zA σ 12 0 (zI σ 14 4) = 3 ∧ zI τ 14 4 = zI σ 14 4 + 1 ∧ zI τ g 3 = zA σ 12 1 (zI σ 14 4) ∧ zI τ g 5 = 0 ∧ zI τ g 2 = 0) ∨ (zA σ 12 0 (zI σ 14 4) = 64 ∧ zA σ 12 0 (zI σ 14 4 + 1) = 3 ∧ zI τ 14 4 = zI σ 14 4 + 1 + 1 ∧ zI τ g 3 = zA σ 12 1 (zI σ 14 4 + 1) ∧ zI τ g 5 = 1 ∧ zI τ g 2 = 0))
def VFl (σ : ZS) : Prop := ¬ zA σ 12 0 (zI σ 14 4) = 2 ∧ ¬ zA σ 12 0 (zI σ 14 4) = 3 ∧ ¬ (zA σ 12 0 (zI σ 14 4) = 64 ∧ zA σ 12 0 (zI σ 14 4 + 1) = 3)
theorem x_plainValue {g : Int} {σ : ZS} {Q : Int → ZS → Prop} (hg : 5 ≤ g ∧ g ≤ 6) (h : PS σ) (h1 : ∀ τ : ZS, OG g σ τ → OPI τ g → VRs σ g τ → Q 1 τ) (h0 : VFl σ → ∀ τ : ZS, OG g σ τ → Q 0 τ) : wpX8_plainValue g σ Q := by
  unfold wpX8_plainValue
  refine ⟨hg, x_clear hg h (by decide) (fun τ og oi ff e14 => c_type og.1 ?_)⟩
  obtain ⟨f0, f2, f3, f5, f6, f7⟩ := ff
  have e4 : zI τ 14 4 = zI σ 14 4 := ob_I e14 4
  have lv := og.lv hg
  have w0 : zA τ 12 0 = zA σ 12 0 := ob_A lv.2.1 0
  have w1 : zA τ 12 1 = zA σ 12 1 := ob_A lv.2.1 1
  have ht := og.1.tk
  have hN := og.1.2.2.2.2.2.2
  refine ⟨by have := ht.1; omega, fun n2 => ?_, fun e2 => c_value og.1 ?_⟩
  · have fin : ∀ (x : Int) (υ : ZS), (0 ≤ x ∧ x ≤ 1) → OG g τ υ → OPI υ g → (zI υ g 0 = 4 ∧ zI υ g 2 = 0) → zA υ 12 0 = zA σ 12 0 → zA υ 12 1 = zA σ 12 1 → ((x = 0 ∧ zI υ 14 4 = zI σ 14 4 ∧ zA σ 12 0 (zI σ 14 4) ≠ 64) ∨ (x = 1 ∧ zI υ 14 4 = zI σ 14 4 + 1 ∧ zA σ 12 0 (zI σ 14 4) = 64)) → ((0 ≤ x ∧ x ≤ 1) ∧ wpX8_value (zsI υ g 5 x) (fun (x11 : Int) (σ12 : ZS) => (0 ≤ (zI σ12 14 4) ∧ (zI σ12 14 4) < 481) ∧ wpX8_take 3 (zsI (zsI σ12 g 3 x11) g 4 (zA σ12 12 2 (zI σ12 14 4))) (fun (x14 : Int) (σ15 : ZS) => (0 ≤ x14 ∧ x14 ≤ 1) ∧ Q x14 σ15))) := by
      intro x υ hx ug uo uf u0 u1 hc
      have ug5 := ug.g (f := 5) (v := x) hg
      refine ⟨hx, c_value ug5.1 ⟨ug5.1.at, ?_⟩⟩
      have ug4 := (ug5.g (f := 3) (v := zA (zsI υ g 5 x) 12 1 (zI (zsI υ g 5 x) 14 4)) hg).g (f := 4) (v := zA (zsI υ g 5 x) 12 2 (zI (zsI υ g 5 x) 14 4)) hg
      refine c_take ug4.1 (by decide) (fun e p => ⟨by decide, h1 _ (og.tr (ug4.on (by omega))) ?_ ?_⟩) (fun n => ⟨by decide, h0 ?_ _ (og.tr ug4)⟩)
      · have tk5 := ug5.1.tk
        simp only [zI_g (show (14 : Int) ≠ g by omega)] at e
        have e' : zA (zsI υ g 5 x) 12 0 (zI (zsI υ g 5 x) 14 4) = 3 := by
          rw [zI_g (show (14 : Int) ≠ g by omega)]
          exact e
        obtain ⟨t1, t2, t3, t4⟩ := tk5
        have t4' := t4 e'
        have e11 : zI (zsI υ g 5 x) 11 5 = zI υ 11 5 := zI_g (by omega)
        rw [e11] at t4'
        obtain ⟨⟨a1, a2, a3, a4, a5, a6, a7⟩, b⟩ := uo
        unfold OPI OPB
        simp only [zI_g (show (11 : Int) ≠ 14 by decide), zI_g (show g ≠ 14 by omega), zI_g (show (11 : Int) ≠ g by omega), zI_s, zI_f (show (0 : Nat) ≠ 4 by decide), zI_f (show (0 : Nat) ≠ 3 by decide), zI_f (show (0 : Nat) ≠ 5 by decide), zI_f (show (2 : Nat) ≠ 3 by decide), zI_f (show (2 : Nat) ≠ 4 by decide), zI_f (show (2 : Nat) ≠ 5 by decide), zI_f (show (3 : Nat) ≠ 4 by decide), zI_f (show (5 : Nat) ≠ 3 by decide), zI_f (show (5 : Nat) ≠ 4 by decide), zI_f (show (6 : Nat) ≠ 3 by decide), zI_f (show (6 : Nat) ≠ 4 by decide), zI_f (show (6 : Nat) ≠ 5 by decide), zI_f (show (7 : Nat) ≠ 3 by decide), zI_f (show (7 : Nat) ≠ 4 by decide), zI_f (show (7 : Nat) ≠ 5 by decide)]
        exact ⟨⟨a1, ⟨by omega, t4'⟩, fun _ => t3.1, by omega, hx, a6, a7⟩, b⟩
      · simp only [zI_g (show (14 : Int) ≠ g by omega)] at e
        have e' : zA υ 12 0 (zI υ 14 4) = 3 := e
        rw [u0] at e'
        unfold VRs
        simp only [zI_g (show g ≠ 14 by omega), zI_g (show (14 : Int) ≠ g by omega), zI_s, zI_f (show (0 : Nat) ≠ 4 by decide), zI_f (show (0 : Nat) ≠ 3 by decide), zI_f (show (0 : Nat) ≠ 5 by decide), zI_f (show (2 : Nat) ≠ 3 by decide), zI_f (show (2 : Nat) ≠ 4 by decide), zI_f (show (2 : Nat) ≠ 5 by decide), zI_f (show (3 : Nat) ≠ 4 by decide), zI_f (show (5 : Nat) ≠ 3 by decide), zI_f (show (5 : Nat) ≠ 4 by decide)]
        have e1 : zA (zsI υ g 5 x) 12 1 (zI υ 14 4) = zA σ 12 1 (zI υ 14 4) := by show zA υ 12 1 _ = _; rw [u1]
        rw [e1]
        refine ⟨uf.1, ?_⟩
        rcases hc with ⟨c1, c2, c3⟩ | ⟨c1, c2, c3⟩
        · rw [c2] at e' ⊢
          exact Or.inr (Or.inl ⟨e', rfl, rfl, c1, uf.2⟩)
        · rw [c2] at e' ⊢
          exact Or.inr (Or.inr ⟨c3, e', rfl, rfl, c1, uf.2⟩)
      · simp only [zI_g (show (14 : Int) ≠ g by omega)] at n
        have n' : zA υ 12 0 (zI υ 14 4) ≠ 3 := n
        rw [u0] at n'
        rw [w0, e4] at n2
        refine ⟨n2, ?_, ?_⟩
        · rcases hc with ⟨c1, c2, c3⟩ | ⟨c1, c2, c3⟩
          · rw [c2] at n'; exact n'
          · omega
        · rcases hc with ⟨c1, c2, c3⟩ | ⟨c1, c2, c3⟩
          · exact fun q => c3 q.1
          · rw [c2] at n'; exact fun q => n' q.2
    refine c_take og.1 (by decide) (fun e p => fin 1 _ (by decide) ((OG.rf og.1).on (by omega)) (oi.k (ob_i (by decide)) (ob_i (by omega))) ?_ w0 w1 (Or.inr ⟨rfl, ?_, ?_⟩)) (fun n => fin 0 τ (by decide) (OG.rf og.1) oi ⟨f0, f2⟩ w0 w1 (Or.inl ⟨rfl, e4, ?_⟩))
    · rw [zI_g (by omega), zI_g (by omega)]; exact ⟨f0, f2⟩
    · rw [zI_s, e4]
    · rw [w0, e4] at e; exact e
    · rw [w0, e4] at n; exact n
  · have r := (og.g (f := 2) (v := zA τ 12 1 (zI τ 14 4)) hg).on (by
      rw [zI_g (show (14 : Int) ≠ g by omega)]
      show zA τ 12 0 (zI τ 14 4) ≠ 0
      omega)
    rw [zI_g (show (14 : Int) ≠ g by omega)] at r
    refine h1 _ r ⟨(oi.1.n2 hg).k (ob_i (by decide)) (ob_i (by omega)), ?_⟩ ?_
    · rw [zI_g (by omega), zI_s]
      exact ht.2.1
    · unfold VRs
      simp only [zI_g (show g ≠ 14 by omega), zI_s, zI_f (show (0 : Nat) ≠ 2 by decide), zI_f (show (3 : Nat) ≠ 2 by decide)]
      rw [w0, e4] at e2
      rw [w1, e4]
      exact ⟨f0, Or.inl ⟨e2, rfl, f3, rfl⟩⟩
theorem x_coded {g k : Int} {σ : ZS} {Q : Int → ZS → Prop} (hg : 5 ≤ g ∧ g ≤ 6) (h : PS σ) (hk : 0 ≤ k ∧ k ≤ 16) (hn : zA σ 12 0 (zI σ 14 4) ≠ 0) (hQ : ∀ τ : ZS, OG g σ τ → OPI τ g → zI τ 14 4 = zI σ 14 4 + 1 → zI τ g 0 = k → zI τ g 1 = zA σ 12 1 (zI σ 14 4) → zI τ g 3 = -1 → Q 1 τ) : wpX8_coded g k σ Q := by
  unfold wpX8_coded
  refine ⟨hg, x_clear hg h hk (fun τ og oi ff e14 => c_value og.1 ?_)⟩
  have lv := og.lv hg
  have og2 := og.g (f := 1) (v := zA τ 12 1 (zI τ 14 4)) hg
  have hn2 : zA (zsI τ g 1 (zA τ 12 1 (zI τ 14 4))) 12 0 (zI (zsI τ g 1 (zA τ 12 1 (zI τ 14 4))) 14 4) ≠ 0 := by
    rw [zI_g (by omega)]
    show zA τ 12 0 (zI τ 14 4) ≠ 0
    rw [og.2.1.A (m_no (by omega) (by decide)) 0, ob_I e14 4]; exact hn
  have r := og2.on hn2
  rw [zI_g (show (14 : Int) ≠ g by omega)] at r
  refine hQ _ r ⟨?_, ?_⟩ ?_ ?_ ?_ ?_
  · obtain ⟨⟨a1, a2, a3, a4, a5, a6, a7⟩, b⟩ := oi
    unfold OPB
    simp only [zI_g (show (11 : Int) ≠ 14 by decide), zI_g (show g ≠ 14 by omega), zI_g (show (11 : Int) ≠ g by omega), zI_f (show (0 : Nat) ≠ 1 by decide), zI_f (show (3 : Nat) ≠ 1 by decide), zI_f (show (4 : Nat) ≠ 1 by decide), zI_f (show (5 : Nat) ≠ 1 by decide), zI_f (show (6 : Nat) ≠ 1 by decide), zI_f (show (7 : Nat) ≠ 1 by decide)]
    exact ⟨a1, a2, a3, a4, a5, a6, a7⟩
  · rw [zI_g (by omega), zI_f (by decide)]; exact oi.2
  · rw [zI_s, ob_I e14 4]
  · rw [zI_g (by omega), zI_f (by decide)]; exact ff.1
  · rw [zI_g (by omega), zI_s, ob_A lv.2.1 1, ob_I e14 4]
  · rw [zI_g (by omega), zI_f (by decide)]; exact ff.2.2.1
/-- what may stand there, in the class's bits a and the reference's b -/
def AB (a b : Int) : Prop := (a % 2 = 0 ↔ b % 2 = 0) ∧ (zand a 2 = 0 ↔ zand b 8 = 0) ∧ (zand a 4 = 0 ↔ zand b 16 = 0) ∧ (zand a 8 = 0 ↔ zand b 2 = 0 ∧ zand b 4 = 0) ∧ (zand a 16 = 0 ↔ zand b 2 = 0)
/-! X: the operand as a whole -/
/-- which operand it is, whether it may stand there, how far it reaches -/
def OKo (a : Int) (σ : ZS) (g : Int) (τ : ZS) : Prop := (zI τ g 0 = 1 ∧ ¬ a % 2 = 0 ∧ zA σ 12 2 (zI σ 14 4) + 2 ≤ zA σ 12 2 (zI τ 14 4)) ∨ (zI τ g 0 = 8 ∧ (¬ zand a 8 = 0 ∨ ¬ zand a 16 = 0) ∧ zA σ 12 2 (zI σ 14 4) + 2 ≤ zA σ 12 2 (zI τ 14 4)) ∨ (zI τ g 0 = 2 ∧ ¬ zand a 2 = 0 ∧ zA σ 12 2 (zI σ 14 4) + 3 ≤ zA σ 12 2 (zI τ 14 4)) ∨ (zI τ g 0 = 4 ∧ ¬ zand a 4 = 0 ∧ zA σ 12 2 (zI σ 14 4) + 1 ≤ zA σ 12 2 (zI τ 14 4))
/-- the reference fails where no value stands -/
theorem r_no114 {h : Int → Int} {L b : Int} {E M : Int → Int} {σ ρ : ZS} {p0 : List Int} {Qr : Int → ZS → Prop} (hC : CT h L E M σ) (hP : PS σ) (hS : SY h L E σ (zI σ 14 4) ρ) (hB : RB σ ρ (M (zI σ 14 4)) p0) (hF : Fresh ρ) (hv : zand b 16 = 0 ∨ VFl σ) (h0 : ∀ ρ' : ZS, GG ρ' → PR ρ ρ' → Qr 0 ρ') : wpX11_operand_114 b ρ Qr := by
  have i0 := hP.2.2.1.1
  have i1 : zI σ 14 4 < zI σ 12 3 := by have := hP.2.2.1; omega
  unfold wpX11_operand_114
  refine ⟨zand_bd _ _, fun n => ?_, fun _ => s_fault ⟨by decide, h0 _ (GG_34 hB.1) PR_fault⟩⟩
  rcases hv with hv | hv
  · exact absurd hv n
  · exact r_value hC i0 i1 hS hB hF (fun t => absurd t hv.1) (fun t => absurd t hv.2.1) (fun t t' => absurd ⟨t, t'⟩ hv.2.2) (fun _ ρ' a c => ⟨by decide, h0 ρ' a c⟩)
/-- what goes by -/
theorem r_to114 {h : Int → Int} {L i b : Int} {E : Int → Int} {σ ρ : ZS} {Qr : Int → ZS → Prop} (hG : GG ρ) (hS : SY h L E σ i ρ) (n4 : ¬ (zA σ 12 0 i = 4 ∧ ¬ b % 2 = 0)) (n5 : ¬ (zA σ 12 0 i = 5 ∧ (¬ zand b 2 = 0 ∨ (¬ zand b 4 = 0 ∧ ¬ zA σ 12 1 i = 1)))) (n91 : ¬ (zA σ 12 0 i = 91 ∧ ¬ zand b 8 = 0)) (k : wpX11_operand_114 b ρ Qr) : wpX11_operand b ρ Qr := by
  obtain ⟨-, -, -, -, T4, -, T5, T5v, -⟩ := hS.2.2.2.2.f
  have S91 := hS.2.2.2.2.sg (a := 91) (by unfold cS; omega)
  have l7 := hG.2.1.2.2.1
  have l9 := hG.2.1.2.2.2.1
  have f89 : wpX11_operand_89 b ρ Qr := by
    unfold wpX11_operand_89
    exact ⟨by omega, fun _ => k, fun q => ⟨zand_bd _ _, fun _ => k, fun z => absurd ⟨S91.mp q, z⟩ n91⟩⟩
  have f35 : wpX11_operand_35 b ρ Qr := by
    unfold wpX11_operand_35
    refine r_isWord hG.2.1 (by decide) (fun q => ⟨by decide, fun q => absurd q (by decide), fun _ => ?_⟩) (fun _ => ⟨by decide, fun _ => f89, fun q => absurd rfl q⟩)
    have t5 := T5.mpr ⟨q.1, by omega, by omega⟩
    refine ⟨zand_bd _ _, fun z => absurd ⟨t5, Or.inl z⟩ n5, fun _ => ⟨zand_bd _ _, fun _ => f89, fun z => ⟨by omega, fun _ => f89, fun y => absurd ⟨t5, Or.inr ⟨z, fun w => y (by rw [T5v t5, w]; rfl)⟩⟩ n5⟩⟩⟩
  unfold wpX11_operand
  refine r_isWord hG.2.1 (by decide) (fun q => ⟨by decide, fun q => absurd q (by decide), fun _ => ⟨fun _ => f35, fun z => absurd ⟨T4.mpr ⟨q.1, by omega, by omega⟩, z⟩ n4⟩⟩) (fun _ => ⟨by decide, fun _ => f35, fun q => absurd rfl q⟩)
theorem t_operand {h : Int → Int} {L g a b : Int} {E M : Int → Int} {σ : ZS} {Q : Int → ZS → Prop} (hg : 5 ≤ g ∧ g ≤ 6) (hP : PS σ) (hC : CT h L E M σ) (hab : AB a b)
    (h1 : ∀ τ : ZS, OG g σ τ → OPI τ g → OKo a σ g τ → (∀ (ρ : ZS) (p0 : List Int) (Qr : Int → ZS → Prop), SY h L E σ (zI σ 14 4) ρ → RB σ ρ (M (zI σ 14 4)) p0 → Fresh ρ → (∀ ρ' : ZS, SY h L E τ (zI τ 14 4) ρ' → RB τ ρ' (M (zI τ 14 4)) (p0 ++ nm (zI τ g 3)) → Opd ρ 1 ρ' → OR τ g ρ' → Qr 1 ρ') → wpX11_operand b ρ Qr) → Q 1 τ)
    (h0 : ∀ τ : ZS, OG g σ τ → (∀ (ρ : ZS) (p0 : List Int) (Qr : Int → ZS → Prop), SY h L E σ (zI σ 14 4) ρ → RB σ ρ (M (zI σ 14 4)) p0 → Fresh ρ → (∀ ρ' : ZS, GG ρ' → PR ρ ρ' → Qr 0 ρ') → wpX11_operand b ρ Qr) → Q 0 τ) : wpX8_operand g a σ Q := by
  have ht := hP.tk
  have r0 := OG.rf (g := g) hP
  obtain ⟨b1, b8, b16, b2, bc⟩ := hab
  have i0 := hP.2.2.1.1
  have i1 : zI σ 14 4 < zI σ 12 3 := by have := hP.2.2.1; omega
  -- a value
  have f143 : (zA σ 12 0 (zI σ 14 4) = 2 ∨ zA σ 12 0 (zI σ 14 4) = 3 ∨ zA σ 12 0 (zI σ 14 4) = 64) → wpX8_operand_143 g a σ Q := by
    intro tt
    have go : ∀ (ρ : ZS) (Qr : Int → ZS → Prop), GG ρ → SY h L E σ (zI σ 14 4) ρ → wpX11_operand_114 b ρ Qr → wpX11_operand b ρ Qr := fun ρ Qr gg rS k => r_to114 gg rS (by omega) (by omega) (by omega) k
    unfold wpX8_operand_143 wpX8_operand_161 wpX8_operand_162
    refine ⟨zand_bd _ _, fun z => ⟨by decide, h0 _ r0 (fun ρ p0 Qr rS rB rF rQ => go ρ Qr rB.1 rS (r_no114 hC hP rS rB rF (Or.inl (b16.mp z)) rQ))⟩, fun z => x_plainValue hg hP (fun τ og oi vr => ⟨by decide, fun q => absurd q (by decide), fun _ => ⟨by decide, h1 τ og oi (Or.inr (Or.inr (Or.inr ⟨vr.1, z, ?_⟩))) (fun ρ p0 Qr rS rB rF rQ => go ρ Qr rB.1 rS ?_)⟩⟩) (fun vf τ og => ⟨by decide, fun _ => ⟨by decide, h0 τ og (fun ρ p0 Qr rS rB rF rQ => go ρ Qr rB.1 rS (r_no114 hC hP rS rB rF (Or.inr vf) rQ))⟩, fun q => absurd rfl q⟩)⟩
    · rcases vr.2 with ⟨t, e, -⟩ | ⟨t, e, -⟩ | ⟨t, t', e, -⟩
      · rw [e]; exact (hC.pl i0 i1 (by omega)).1
      · rw [e]; exact (hC.pl i0 i1 (by omega)).1
      · have n := hC.on i0 i1 (by omega)
        have p1 := (hC.pl i0 i1 (by omega)).1
        have p2 := (hC.pl (i := zI σ 14 4 + 1) (by omega) n (by omega)).1
        rw [e]; omega
    · have lv := og.lv hg
      have hN := hC.1.1.1.1
      unfold wpX11_operand_114
      refine ⟨zand_bd _ _, fun _ => ?_, fun q => absurd (b16.mpr q) z⟩
      refine r_value hC i0 i1 rS rB rF (fun t ρ' s1 s2 s3 s4 s5 => ⟨by decide, ?_⟩) (fun t ρ' s1 s2 s3 s4 s5 => ⟨by decide, ?_⟩) (fun t t' ρ' s1 s2 s3 s4 s5 => ⟨by decide, ?_⟩) (fun vf ρ' s1 s2 => ?_)
      · rcases vr.2 with ⟨-, e, e3, e2⟩ | ⟨t', -⟩ | ⟨t', -⟩
        · refine rQ ρ' (by rw [e]; exact s1.k lv.1 lv.2.1) ?_ s3 (Or.inr (Or.inr (Or.inr ⟨vr.1, Or.inl ⟨e3, s4, by rw [e2]; exact s5⟩⟩)))
          rw [e, e3, show nm (-1) = [] from rfl, List.append_nil]
          exact s2.k lv.1 lv.2.2.1 lv.2.2.2
        · omega
        · omega
      · rcases vr.2 with ⟨t', -⟩ | ⟨-, e, e3, e5, e2⟩ | ⟨t', -⟩
        · omega
        · have v0 := ht.2.1.1
          refine rQ ρ' (by rw [e]; exact s1.k lv.1 lv.2.1) ?_ s3 (Or.inr (Or.inr (Or.inr ⟨vr.1, Or.inr ⟨by omega, e2, by rw [e3]; exact s5, Or.inl ⟨e5, s4⟩⟩⟩)))
          rw [e, e3, show nm (zA σ 12 1 (zI σ 14 4)) = [zA σ 12 1 (zI σ 14 4)] from if_pos v0]
          exact s2.k lv.1 lv.2.2.1 lv.2.2.2
        · omega
      · rcases vr.2 with ⟨t2, -⟩ | ⟨t2, -⟩ | ⟨-, -, e, e3, e5, e2⟩
        · omega
        · omega
        · have n := hC.on i0 i1 (by omega)
          have v0 := (hC.1.1.2.2.2.2 (zI σ 14 4 + 1) (by omega) n).2.1.1
          refine rQ ρ' (by rw [e]; exact s1.k lv.1 lv.2.1) ?_ s3 (Or.inr (Or.inr (Or.inr ⟨vr.1, Or.inr ⟨by omega, e2, by rw [e3]; exact s5, Or.inr ⟨e5, s4⟩⟩⟩)))
          rw [e, e3, show nm (zA σ 12 1 (zI σ 14 4 + 1)) = [zA σ 12 1 (zI σ 14 4 + 1)] from if_pos v0]
          exact s2.k lv.1 lv.2.2.1 lv.2.2.2
      · exfalso
        rcases vr.2 with ⟨t, -⟩ | ⟨t, -⟩ | ⟨t, t', -⟩
        · exact vf.1 t
        · exact vf.2.1 t
        · exact vf.2.2 ⟨t, t'⟩
  -- a register, or a segment register
  have reg : ∀ (k c : Int) (τ : ZS), ((k = 1 ∧ c = 0 ∧ zA σ 12 0 (zI σ 14 4) = 4) ∨ (k = 8 ∧ c = 1 ∧ zA σ 12 0 (zI σ 14 4) = 5)) → OG g σ τ → zI τ 14 4 = zI σ 14 4 + 1 → zI τ g 0 = k → zI τ g 1 = zA σ 12 1 (zI σ 14 4) → zI τ g 3 = -1 → ∀ (ρ : ZS) (p0 : List Int) (Qr : Int → ZS → Prop), SY h L E σ (zI σ 14 4) ρ → RB σ ρ (M (zI σ 14 4)) p0 → Fresh ρ → (∀ ρ' : ZS, SY h L E τ (zI τ 14 4) ρ' → RB τ ρ' (M (zI τ 14 4)) (p0 ++ nm (zI τ g 3)) → Opd ρ 1 ρ' → OR τ g ρ' → Qr 1 ρ') → wpX11_next (zsI (zsI ρ 0 37 c) 0 38 (zI ρ 0 9 - 8 * c)) (fun σ19 => Qr 1 σ19) := by
    intro k c τ kc og e4 ek e1 e3 ρ p0 Qr rS rB rF rQ
    have lv := og.lv hg
    have gg := rB.1
    have l9 := gg.2.1.2.2.2.1
    have bf : fr [37, 38] [] ρ (zsI (zsI ρ 0 37 c) 0 38 (zI ρ 0 9 - 8 * c)) := (fr.rf.ti (by decide)).ti (by decide)
    have bG : GG (zsI (zsI ρ 0 37 c) 0 38 (zI ρ 0 9 - 8 * c)) := GG_38 (GG_37 gg (by omega)) (by omega)
    have pr : PR ρ (zsI (zsI ρ 0 37 c) 0 38 (zI ρ 0 9 - 8 * c)) := (PR_op (by decide)).tr (PR_op (by decide))
    refine r_next hC i0 i1 (rS.fr bf (by decide) (by decide) (by decide) (by decide) (by decide) (by decide) (by decide) (by decide)) (rB.fr bG bf (by decide) (by decide) (by decide) (by decide) (by decide) (by decide) (by decide)) (by omega) (fun γ cS' cB cF cf cp c1 c2 => ?_)
    have c37 : zI γ 0 37 = c := cf.1 37 (by decide)
    have c38 : zI γ 0 38 = zI ρ 0 9 - 8 * c := cf.1 38 (by decide)
    have c31 : zI γ 0 31 = zI ρ 0 31 := cf.1 31 (by decide)
    have c6 : zI ρ 0 6 + 1 ≤ zI γ 0 6 := c1
    obtain ⟨-, -, -, -, T4, T4v, T5, T5v, -⟩ := rS.2.2.2.2.f
    refine rQ γ (by rw [e4]; exact cS'.k lv.1 lv.2.1) ?_ ⟨cB.1, pr.tr cp, c31, Or.inr rfl, fun _ => ⟨c6, ⟨fun q => by omega, fun q => by omega⟩, cF⟩⟩ ?_
    · rw [e4, e3, show nm (-1) = [] from rfl, List.append_nil, hC.m1 i0 i1 (by omega)]
      exact cB.k lv.1 lv.2.2.1 lv.2.2.2
    · rcases kc with ⟨k1, k2, t⟩ | ⟨k1, k2, t⟩
      · have u := T4.mp t
        have w := T4v t
        clear T4 T4v T5 T5v
        exact Or.inl ⟨by omega, by omega, by omega, by omega, by omega, e3⟩
      · have u := T5.mp t
        have w := T5v t
        clear T4 T4v T5 T5v
        exact Or.inr (Or.inl ⟨by omega, by omega, by omega, by omega, by omega, e3⟩)
  have f100 : ∀ s : Int, zA σ 12 0 (zI σ 14 4) = 5 → ((s = 8 ∧ ¬ zA σ 12 1 (zI σ 14 4) = 1) ∨ (s = 16 ∧ zA σ 12 1 (zI σ 14 4) = 1)) → wpX8_operand_100 g a s σ Q := by
    intro s t hs
    unfold wpX8_operand_100 wpX8_operand_121 wpX8_operand_122
    refine ⟨zand_bd _ _, fun z => ⟨by decide, h0 _ r0 (fun ρ p0 Qr rS rB rF rQ => r_to114 rB.1 rS (by omega) ?_ (by omega) (r_no114 hC hP rS rB rF (Or.inr ⟨by omega, by omega, by omega⟩) rQ))⟩, fun z => x_coded hg hP (by decide) (by omega) (fun τ og oi e4 ek e1 e3 => ⟨by decide, fun q => absurd q (by decide), fun _ => ⟨by decide, h1 τ og oi (Or.inr (Or.inl ⟨ek, ?_, ?_⟩)) (fun ρ p0 Qr rS rB rF rQ => ?_)⟩⟩)⟩
    · rcases hs with ⟨s8, v⟩ | ⟨s8, v⟩
      · rw [s8] at z
        have := b2.mp z
        intro q
        rcases q.2 with y | y
        · exact y this.1
        · exact y.1 this.2
      · rw [s8] at z
        have := bc.mp z
        intro q
        rcases q.2 with y | y
        · exact y this
        · exact y.2 v
    · rcases hs with ⟨s8, v⟩ | ⟨s8, v⟩
      · rw [s8] at z; exact Or.inl z
      · rw [s8] at z; exact Or.inr z
    · rw [e4]; exact (hC.pl i0 i1 (by omega)).2 (Or.inr (Or.inl t))
    · have k67 : wpX11_operand_67 ρ Qr := by
        unfold wpX11_operand_67
        exact reg 8 1 τ (Or.inr ⟨rfl, rfl, t⟩) og e4 ek e1 e3 ρ p0 Qr rS rB rF rQ
      obtain ⟨-, -, -, -, T4, T4v, T5, T5v, -⟩ := rS.2.2.2.2.f
      have u := T5.mp t
      have w := T5v t
      have l9 := rB.1.2.1.2.2.2.1
      clear T4 T4v T5 T5v
      unfold wpX11_operand
      refine r_isWord rB.1.2.1 (by decide) (fun q => by omega) (fun _ => ⟨by decide, fun _ => ?_, fun q => absurd rfl q⟩)
      unfold wpX11_operand_35
      refine r_isWord rB.1.2.1 (by decide) (fun _ => ⟨by decide, fun q => absurd q (by decide), fun _ => ⟨zand_bd _ _, fun _ => k67, fun y2 => ⟨zand_bd _ _, fun y4 => ?_, fun y4 => ⟨by omega, fun y9 => ?_, fun _ => k67⟩⟩⟩⟩) (fun q => by omega)
      · exfalso
        rcases hs with ⟨s8, v⟩ | ⟨s8, v⟩
        · rw [s8] at z; exact z (b2.mpr ⟨y2, y4⟩)
        · rw [s8] at z; exact z (bc.mpr y2)
      · exfalso
        rcases hs with ⟨s8, v⟩ | ⟨s8, v⟩
        · omega
        · rw [s8] at z; exact z (bc.mpr y2)
  unfold wpX8_operand wpX8_operand_83 wpX8_operand_84 wpX8_operand_141 wpX8_operand_142
  refine c_type hP ⟨by have := ht.1; omega, fun e2 => f143 (Or.inl e2), fun n2 => ⟨fun e3 => f143 (Or.inr (Or.inl e3)), fun n3 => ⟨fun e4 => ⟨fun z => ⟨by decide, h0 _ r0 (fun ρ p0 Qr rS rB rF rQ => r_to114 rB.1 rS (fun q => q.2 (b1.mp z)) (by omega) (by omega) (r_no114 hC hP rS rB rF (Or.inr ⟨by omega, by omega, by omega⟩) rQ))⟩, fun z => x_coded hg hP (by decide) (by omega) (fun τ og oi a4 ek e1 e3 => ⟨by decide, fun q => absurd q (by decide), fun _ => ⟨by decide, h1 τ og oi (Or.inl ⟨ek, z, ?_⟩) (fun ρ p0 Qr rS rB rF rQ => ?_)⟩⟩)⟩, fun n4 => ⟨fun e5 => c_value hP ⟨by have := ht.2.1; omega, fun v => f100 8 e5 (Or.inl ⟨rfl, v⟩), fun v => f100 16 e5 (Or.inr ⟨rfl, v⟩)⟩, fun n5 => ⟨fun e64 => f143 (Or.inr (Or.inr e64)), fun n64 => ⟨fun e91 => ⟨zand_bd _ _, fun z => ⟨by decide, h0 _ r0 (fun ρ p0 Qr rS rB rF rQ => r_to114 rB.1 rS (by omega) (by omega) (fun q => q.2 (b8.mp z)) (r_no114 hC hP rS rB rF (Or.inr ⟨by omega, by omega, by omega⟩) rQ))⟩, fun z => x_brackets hg hP hC (by omega) (fun τ og oi ek ea tb => ⟨by decide, fun q => absurd q (by decide), fun _ => ⟨by decide, h1 τ og oi (Or.inr (Or.inr (Or.inl ⟨ek, z, ?_⟩))) (fun ρ p0 Qr rS rB rF rQ => ?_)⟩⟩) (fun τ og tb => ⟨by decide, fun _ => ⟨by decide, h0 τ og (fun ρ p0 Qr rS rB rF rQ => ?_)⟩, fun q => absurd rfl q⟩)⟩, fun n91 => h0 _ r0 (fun ρ p0 Qr rS rB rF rQ => r_to114 rB.1 rS (by omega) (by omega) (by omega) (r_no114 hC hP rS rB rF (Or.inr ⟨n2, n3, by omega⟩) rQ))⟩⟩⟩⟩⟩⟩
  · rw [a4]; exact (hC.pl i0 i1 (by omega)).2 (Or.inl e4)
  · obtain ⟨-, -, -, -, T4, T4v, T5, T5v, -⟩ := rS.2.2.2.2.f
    have u := T4.mp e4
    clear T4 T4v T5 T5v
    unfold wpX11_operand
    refine r_isWord rB.1.2.1 (by decide) (fun _ => ⟨by decide, fun q => absurd q (by decide), fun _ => ⟨fun y => absurd (b1.mpr y) z, fun _ => ?_⟩⟩) (fun q => by omega)
    have k := reg 1 0 τ (Or.inl ⟨rfl, rfl, e4⟩) og a4 ek e1 e3 ρ p0 Qr rS rB rF rQ
    rw [show zI ρ 0 9 - 8 * 0 = zI ρ 0 9 by omega] at k
    exact k
  · have hl := og.1.2.2.1
    have es : zI τ 12 3 = zI σ 12 3 := ob_I (og.lv hg).2.1 3
    have := hC.pk i0 (zI τ 14 4 - zI σ 14 4).toNat (by omega)
    rw [show zI σ 14 4 + ((zI τ 14 4 - zI σ 14 4).toNat : Int) = zI τ 14 4 by omega] at this
    omega
  · obtain ⟨-, -, -, -, T4, T4v, T5, T5v, -⟩ := rS.2.2.2.2.f
    have S91 := (rS.2.2.2.2.sg (a := 91) (by unfold cS; omega)).mpr e91
    clear T4 T4v T5 T5v
    have l7 := rB.1.2.1.2.2.1
    unfold wpX11_operand
    refine r_isWord rB.1.2.1 (by decide) (fun q => by omega) (fun _ => ⟨by decide, fun _ => ?_, fun q => absurd rfl q⟩)
    unfold wpX11_operand_35
    refine r_isWord rB.1.2.1 (by decide) (fun q => by omega) (fun _ => ⟨by decide, fun _ => ?_, fun q => absurd rfl q⟩)
    unfold wpX11_operand_89
    refine ⟨by omega, fun q => absurd S91 q, fun _ => ⟨zand_bd _ _, fun y => absurd (b8.mpr y) z, fun _ => ?_⟩⟩
    refine r_next hC i0 i1 rS rB (by omega) (fun γ cS' cB cF cf cp c1 c2 => tb ρ γ p0 _ cS' (by rw [hC.m1 i0 i1 (by omega)]; exact cB) cF cp (cf.1 31 (by decide)) (by omega) (fun ρ' s1 s2 s3 s4 => ⟨by decide, rQ ρ' s1 s2 s3 s4⟩))
  · have S91 := (rS.2.2.2.2.sg (a := 91) (by unfold cS; omega)).mpr e91
    have l7 := rB.1.2.1.2.2.1
    unfold wpX11_operand
    refine r_isWord rB.1.2.1 (by decide) (fun q => by omega) (fun _ => ⟨by decide, fun _ => ?_, fun q => absurd rfl q⟩)
    unfold wpX11_operand_35
    refine r_isWord rB.1.2.1 (by decide) (fun q => by omega) (fun _ => ⟨by decide, fun _ => ?_, fun q => absurd rfl q⟩)
    unfold wpX11_operand_89
    refine ⟨by omega, fun q => absurd S91 q, fun _ => ⟨zand_bd _ _, fun y => absurd (b8.mpr y) z, fun _ => ?_⟩⟩
    refine r_next hC i0 i1 rS rB (by omega) (fun γ cS' cB cF cf cp c1 c2 => tb ρ γ p0 _ cS' (by rw [hC.m1 i0 i1 (by omega)]; exact cB) cF cp (cf.1 31 (by decide)) (by omega) (fun ρ' s1 s2 => ⟨by decide, rQ ρ' s1 s2⟩))
