/-! X: the parts of memory on both sides -/
theorem x_clear {g k : Int} {σ : ZS} {Q : ZS → Prop} (hg : 5 ≤ g ∧ g ≤ 6) (h : PS σ) (hk : 0 ≤ k ∧ k ≤ 16) (hQ : ∀ τ : ZS, OG g σ τ → OPI τ g → (zI τ g 0 = k ∧ zI τ g 2 = 0 ∧ zI τ g 3 = -1 ∧ zI τ g 5 = 0 ∧ zI τ g 6 = 0 ∧ zI τ g 7 = 0) → ob τ 14 = ob σ 14 → Q τ) : wpX7_clear g k σ Q := by
  have g0 := c_clear (Q := fun τ => OG g σ τ ∧ OPI τ g ∧ ob τ 14 = ob σ 14) hg h hk (fun τ a b _ _ e => ⟨a, b, e⟩)
  unfold wpX7_clear at g0 ⊢
  obtain ⟨h0, h1, h2, h3⟩ := g0
  refine ⟨h0, hQ _ h1 h2 ?_ h3⟩
  obtain rfl | rfl : g = 5 ∨ g = 6 := by omega
  · exact ⟨rfl, rfl, rfl, rfl, rfl, rfl⟩
  · exact ⟨rfl, rfl, rfl, rfl, rfl, rfl⟩
/-- a part of memory is taken -/
def PSt (σ : ZS) (g : Int) (τ : ZS) : Prop := (zI τ g 0 = zI σ g 0 ∧ zI τ g 5 = zI σ g 5) ∧ ((zA σ 12 0 (zI σ 14 4) = 2 ∧ zI τ g 2 = zI σ g 2 + zA σ 12 1 (zI σ 14 4) ∧ zI τ g 3 = zI σ g 3 ∧ zI τ g 6 = zI σ g 6 ∧ zI τ g 7 = zI σ g 7) ∨ (zA σ 12 0 (zI σ 14 4) = 3 ∧ zI σ g 3 < 0 ∧ zI τ g 3 = zA σ 12 1 (zI σ 14 4) ∧ zI τ g 2 = zI σ g 2 ∧ zI τ g 6 = zI σ g 6 ∧ zI τ g 7 = zI σ g 7) ∨ (zA σ 12 0 (zI σ 14 4) = 4 ∧ (zA σ 12 1 (zI σ 14 4) = 3 ∨ zA σ 12 1 (zI σ 14 4) = 5) ∧ zI σ g 6 = 0 ∧ zI τ g 6 = zA σ 12 1 (zI σ 14 4) ∧ zI τ g 2 = zI σ g 2 ∧ zI τ g 3 = zI σ g 3 ∧ zI τ g 7 = zI σ g 7) ∨ (zA σ 12 0 (zI σ 14 4) = 4 ∧ (zA σ 12 1 (zI σ 14 4) = 6 ∨ zA σ 12 1 (zI σ 14 4) = 7) ∧ zI σ g 7 = 0 ∧ zI τ g 7 = zA σ 12 1 (zI σ 14 4) ∧ zI τ g 2 = zI σ g 2 ∧ zI τ g 3 = zI σ g 3 ∧ zI τ g 6 = zI σ g 6))
/-- no part of memory -/
def PFl (σ : ZS) (g : Int) : Prop := ¬ zA σ 12 0 (zI σ 14 4) = 2 ∧ ¬ (zA σ 12 0 (zI σ 14 4) = 3 ∧ zI σ g 3 < 0) ∧ ¬ (zA σ 12 0 (zI σ 14 4) = 4 ∧ (zA σ 12 1 (zI σ 14 4) = 3 ∨ zA σ 12 1 (zI σ 14 4) = 5) ∧ zI σ g 6 = 0) ∧ ¬ (zA σ 12 0 (zI σ 14 4) = 4 ∧ (zA σ 12 1 (zI σ 14 4) = 6 ∨ zA σ 12 1 (zI σ 14 4) = 7) ∧ zI σ g 7 = 0)
theorem x_part {g : Int} {σ : ZS} {Q : Int → ZS → Prop} (hg : 5 ≤ g ∧ g ≤ 6) (h : PS σ) (ho : OPB σ g) (h1 : ∀ τ : ZS, OG g σ τ → OPB τ g → zI τ 14 4 = zI σ 14 4 + 1 → PSt σ g τ → Q 1 τ) (h0 : PFl σ g → Q 0 σ) : wpX8_part g σ Q := by
  obtain ⟨a1, a2, a3, a4, a5, a6, a7⟩ := ho
  have ht := h.tk
  have hN := h.2.2.2.2.2.2
  obtain ⟨t1, t2, t3, t4⟩ := ht
  have f141 : ∀ τ : ZS, zA σ 12 0 (zI σ 14 4) ≠ 0 → OG g σ τ → ob τ 14 = ob σ 14 → OPB τ g → PSt σ g τ → wpX8_part_141 τ Q := by
    intro τ hn og e14 oo ps
    unfold wpX8_part_141
    refine h1 _ (og.on ?_) (oo.k (ob_i (by decide)) (ob_i (by omega))) ?_ ?_
    · rw [og.2.1.A (m_no (by omega) (by decide)) 0, ob_I e14 4]; exact hn
    · rw [zI_s, ob_I e14 4]
    · unfold PSt at ps ⊢
      simp only [zI_g (show g ≠ 14 by omega)]
      exact ps
  have f124 : ∀ v : Int, v = zA σ 12 1 (zI σ 14 4) → v = 6 ∨ v = 7 → zA σ 12 0 (zI σ 14 4) = 4 → wpX8_part_124 g v σ Q := by
    intro v ve hv hn
    unfold wpX8_part_124 wpX8_part_139
    refine ⟨hg, by omega, fun q => h0 ?_, fun q => f141 _ (by omega) ((OG.rf h).g hg) (ob_i (by omega)) ?_ ?_⟩
    · unfold PFl; omega
    · unfold OPB
      simp only [zI_g (show (11 : Int) ≠ g by omega), zI_s, zI_f (show (0 : Nat) ≠ 7 by decide), zI_f (show (3 : Nat) ≠ 7 by decide), zI_f (show (4 : Nat) ≠ 7 by decide), zI_f (show (5 : Nat) ≠ 7 by decide), zI_f (show (6 : Nat) ≠ 7 by decide)]
      exact ⟨a1, a2, a3, a4, a5, a6, Or.inr hv⟩
    · unfold PSt
      simp only [zI_s, zI_f (show (0 : Nat) ≠ 7 by decide), zI_f (show (2 : Nat) ≠ 7 by decide), zI_f (show (3 : Nat) ≠ 7 by decide), zI_f (show (6 : Nat) ≠ 7 by decide), zI_f (show (5 : Nat) ≠ 7 by decide)]
      exact ⟨⟨trivial, trivial⟩, Or.inr (Or.inr (Or.inr ⟨hn, by omega, q, ve, trivial, trivial, trivial⟩))⟩
  have f112 : ∀ v : Int, v = zA σ 12 1 (zI σ 14 4) → zA σ 12 0 (zI σ 14 4) = 4 → ((v = 3 ∨ v = 5) → ¬ zI σ g 6 = 0) → wpX8_part_112 g v σ Q := by
    intro v ve hn hb
    unfold wpX8_part_112 wpX8_part_139
    exact ⟨by omega, fun e => f124 v ve (Or.inl e) hn, fun q6 => ⟨fun q7 => h0 (by unfold PFl; omega), fun e => f124 v ve (Or.inr e) hn⟩⟩
  have f97 : ∀ v : Int, v = zA σ 12 1 (zI σ 14 4) → v = 3 ∨ v = 5 → zA σ 12 0 (zI σ 14 4) = 4 → wpX8_part_97 g v σ Q := by
    intro v ve hv hn
    unfold wpX8_part_97
    refine ⟨hg, by omega, fun q => f112 v ve hn (fun _ => q), fun q => f141 _ (by omega) ((OG.rf h).g hg) (ob_i (by omega)) ?_ ?_⟩
    · unfold OPB
      simp only [zI_g (show (11 : Int) ≠ g by omega), zI_s, zI_f (show (0 : Nat) ≠ 6 by decide), zI_f (show (3 : Nat) ≠ 6 by decide), zI_f (show (4 : Nat) ≠ 6 by decide), zI_f (show (5 : Nat) ≠ 6 by decide), zI_f (show (7 : Nat) ≠ 6 by decide)]
      exact ⟨a1, a2, a3, a4, a5, Or.inr hv, a7⟩
    · unfold PSt
      simp only [zI_s, zI_f (show (0 : Nat) ≠ 6 by decide), zI_f (show (2 : Nat) ≠ 6 by decide), zI_f (show (3 : Nat) ≠ 6 by decide), zI_f (show (7 : Nat) ≠ 6 by decide), zI_f (show (5 : Nat) ≠ 6 by decide)]
      exact ⟨⟨trivial, trivial⟩, Or.inr (Or.inr (Or.inl ⟨hn, by omega, q, ve, trivial, trivial, trivial⟩))⟩
  have f80 : ¬ zA σ 12 0 (zI σ 14 4) = 2 → ¬ (zA σ 12 0 (zI σ 14 4) = 3 ∧ zI σ g 3 < 0) → wpX8_part_80 g (zA σ 12 0 (zI σ 14 4)) (zA σ 12 1 (zI σ 14 4)) σ Q := by
    intro n2 n3
    unfold wpX8_part_80
    exact ⟨by omega, fun e => ⟨by omega, fun e' => f97 _ rfl (Or.inl e') e, fun q3 => ⟨fun q5 => f112 _ rfl e (fun z => by omega), fun e' => f97 _ rfl (Or.inr e') e⟩⟩, fun q => h0 (by unfold PFl; omega)⟩
  unfold wpX8_part
  refine ⟨h.at, by omega, fun n2 => ⟨fun n3 => f80 n2 (fun z => n3 z.1), fun e3 => ⟨hg, by omega, fun q => f80 n2 (fun z => by omega), fun q => f141 _ (by omega) (((OG.rf h).g hg).g hg) ((ob_i (by omega)).trans (ob_i (by omega))) ?_ ?_⟩⟩, fun e2 => ⟨hg, f141 _ (by omega) ((OG.rf h).g hg) (ob_i (by omega)) ?_ ?_⟩⟩
  · have := t4 e3
    unfold OPB
    simp only [zI_g (show (11 : Int) ≠ g by omega), zI_s, zI_f (show (0 : Nat) ≠ 4 by decide), zI_f (show (0 : Nat) ≠ 3 by decide), zI_f (show (3 : Nat) ≠ 4 by decide), zI_f (show (5 : Nat) ≠ 3 by decide), zI_f (show (5 : Nat) ≠ 4 by decide), zI_f (show (6 : Nat) ≠ 3 by decide), zI_f (show (6 : Nat) ≠ 4 by decide), zI_f (show (7 : Nat) ≠ 3 by decide), zI_f (show (7 : Nat) ≠ 4 by decide)]
    exact ⟨a1, by omega, fun _ => t3.1, by omega, a5, a6, a7⟩
  · unfold PSt
    simp only [zI_s, zI_f (show (0 : Nat) ≠ 4 by decide), zI_f (show (0 : Nat) ≠ 3 by decide), zI_f (show (3 : Nat) ≠ 4 by decide), zI_f (show (2 : Nat) ≠ 3 by decide), zI_f (show (2 : Nat) ≠ 4 by decide), zI_f (show (6 : Nat) ≠ 3 by decide), zI_f (show (6 : Nat) ≠ 4 by decide), zI_f (show (7 : Nat) ≠ 3 by decide), zI_f (show (7 : Nat) ≠ 4 by decide), zI_f (show (5 : Nat) ≠ 3 by decide), zI_f (show (5 : Nat) ≠ 4 by decide)]
    exact ⟨⟨trivial, trivial⟩, Or.inr (Or.inl ⟨e3, by omega, trivial, trivial, trivial, trivial⟩)⟩
  · unfold OPB
    simp only [zI_g (show (11 : Int) ≠ g by omega), zI_f (show (0 : Nat) ≠ 2 by decide), zI_f (show (3 : Nat) ≠ 2 by decide), zI_f (show (4 : Nat) ≠ 2 by decide), zI_f (show (5 : Nat) ≠ 2 by decide), zI_f (show (6 : Nat) ≠ 2 by decide), zI_f (show (7 : Nat) ≠ 2 by decide)]
    exact ⟨a1, a2, a3, a4, a5, a6, a7⟩
  · unfold PSt
    simp only [zI_s, zI_f (show (0 : Nat) ≠ 2 by decide), zI_f (show (3 : Nat) ≠ 2 by decide), zI_f (show (6 : Nat) ≠ 2 by decide), zI_f (show (7 : Nat) ≠ 2 by decide), zI_f (show (5 : Nat) ≠ 2 by decide)]
    exact ⟨⟨trivial, trivial⟩, Or.inl ⟨e2, trivial, trivial, trivial, trivial⟩⟩
def nm (n : Int) : List Int := if 0 ≤ n then [n] else []
/-- a register noted, or none -/
def RGr (c r : Int) : Prop := (c = 0 ∧ r = -1) ∨ (1 ≤ c ∧ r = c)
/-- memory as read so far, on both sides -/
def MmR (σ : ZS) (g : Int) (ρ : ZS) : Prop := zI ρ 0 37 = 2 ∧ zI ρ 0 38 = zI σ g 2 % 65536 ∧ zI ρ 0 39 = zI σ g 3 ∧ RGr (zI σ g 6) (zI ρ 0 41) ∧ RGr (zI σ g 7) (zI ρ 0 42)
/-- what the reference's part leaves, against the class behind its part -/
def MmS (σ τ : ZS) (g : Int) (ρ ρ' : ZS) : Prop := zI ρ' 0 37 = 2 ∧ zI ρ' 0 38 = zI ρ 0 38 ∧ zI ρ' 0 39 = zI τ g 3 ∧ RGr (zI τ g 6) (zI ρ' 0 41) ∧ RGr (zI τ g 7) (zI ρ' 0 42)
theorem r_part1 {h : Int → Int} {L g : Int} {E M : Int → Int} {σ τ ρ : ZS} {p0 : List Int} {Q : Int → ZS → Prop} (hC : CT h L E M σ) (hP : PS σ) (hS : SY h L E σ (zI σ 14 4) ρ) (hB : RB σ ρ (M (zI σ 14 4)) (p0 ++ nm (zI σ g 3))) (hF : Fresh ρ) (hM : MmR σ g ρ) (hO : OpU ρ) (hp : PSt σ g τ)
    (h1 : ∀ ρ' : ZS, SY h L E σ (zI σ 14 4) ρ' → RB σ ρ' (M (zI σ 14 4 + 1)) (p0 ++ nm (zI τ g 3)) → OpU ρ' → MmS σ τ g ρ ρ' → PR ρ ρ' → zI ρ' 0 31 = zI ρ 0 31 → zI ρ' 0 6 = zI ρ 0 6 → Q 1 ρ') : wpX11_part ρ Q := by
  have hG := hB.1
  have T := hS.2.2.2.2.f
  have i0 := hP.2.2.1.1
  have i1 : zI σ 14 4 < zI σ 12 3 := by have := hP.2.2.1; omega
  obtain ⟨m1, m2, m3, m4, m5⟩ := hM
  have l7 := hG.2.1.2.2.1
  have l9 := hG.2.1.2.2.2.1
  have l39 := hG.2.1.2.2.2.2.2.2.2.2.2.2.2.2.2.2.2.1
  have l41 := hG.2.1.2.2.2.2.2.2.2.2.2.2.2.2.2.2.2.2.1
  have l42 := hG.2.1.2.2.2.2.2.2.2.2.2.2.2.2.2.2.2.2.2.1
  obtain ⟨-, hp⟩ := hp
  unfold wpX11_part
  rcases hp with ⟨t, e2, e3, e6, e7⟩ | ⟨t, e0, e3, e2, e6, e7⟩ | ⟨t, tv, e0, e6, e2, e3, e7⟩ | ⟨t, tv, e0, e7, e2, e3, e6⟩
  · have t2 := T.2.1.mp t
    clear T
    refine ⟨by omega, fun q => absurd t2 q, fun _ => h1 ρ hS ?_ hO ⟨m1, rfl, by rw [e3]; exact m3, by rw [e6]; exact m4, by rw [e7]; exact m5⟩ PR.rf rfl rfl⟩
    rw [hC.m1 i0 i1 (by omega), e3]; exact hB
  · have tc := T.2.2.2.1.mp t
    clear T
    refine ⟨by omega, fun _ => ?_, fun q => by omega⟩
    refine r_isWord hG.2.1 (by decide) (fun q => by omega) (fun _ => ⟨by decide, fun q => absurd rfl q, fun _ => ?_⟩)
    refine r_isWord hG.2.1 (by decide) (fun q => by omega) (fun _ => ⟨by decide, fun _ => ?_, fun q => absurd rfl q⟩)
    refine r_isWord hG.2.1 (by decide) (fun q => by omega) (fun _ => ⟨by decide, fun _ => ?_, fun q => absurd rfl q⟩)
    refine r_isName hG.2.1 hS (fun _ => ⟨by decide, fun q => absurd q (by decide), fun _ => ⟨by omega, fun _ => ?_, fun q => absurd e0 (by omega)⟩⟩) (fun q => absurd t q)
    have hst := hG.2.2.1.2.1 (by omega)
    have hfr := hF tc.1
    have l2 := hG.2.1.2.1
    have l1 := hG.2.1.1
    refine r_name hC i0 i1 hS hB hF t (fun α aS aB af ap an => ?_)
    have bf : fr [39] [] α (zsI α 0 39 (zA σ 12 1 (zI σ 14 4))) := fr.rf.ti (by decide)
    have bG : GG (zsI α 0 39 (zA σ 12 1 (zI σ 14 4))) := GG_39 aB.1 (by omega)
    have a5 : zI α 0 5 = zI ρ 0 5 := af.1 5 (by decide)
    have a6 : zI α 0 6 = zI ρ 0 6 := af.1 6 (by decide)
    have a23 : zI α 0 23 = zI ρ 0 23 := af.1 23 (by decide)
    refine r_use (σ := σ) (aS.fr bf (by decide) (by decide) (by decide) (by decide) (by decide) (by decide) (by decide) (by decide)) (aB.fr bG bf (by decide) (by decide) (by decide) (by decide) (by decide) (by decide) (by decide)) ⟨an.1, an.2.1, by rw [bf.1 17 (by decide)]; exact an.2.2⟩ (by omega) (by rw [bf.1 23 (by decide), bf.1 5 (by decide)]; omega) (fun β bS bB bff bp bu => ?_)
    have b39 : zI β 0 39 = zA σ 12 1 (zI σ 14 4) := bff.1 39 (by decide)
    have b37 : zI β 0 37 = 2 := by rw [bff.1 37 (by decide), bf.1 37 (by decide), af.1 37 (by decide)]; exact m1
    refine h1 β bS ?_ ⟨fun _ _ => by rw [b39]; exact bu, fun q => by omega⟩ ⟨b37, ?_, by rw [b39, e3], ?_, ?_⟩ (ap.tr ((PR_op (by decide)).tr bp)) ?_ ?_
    · have n0 : nm (zI σ g 3) = [] := if_neg (by omega)
      have n1 : nm (zI τ g 3) = [zA σ 12 1 (zI σ 14 4)] := by rw [e3]; exact if_pos an.1
      rw [n0, List.append_nil] at bB
      rw [n1]; exact bB
    · rw [bff.1 38 (by decide), bf.1 38 (by decide), af.1 38 (by decide)]
    · rw [e6, bff.1 41 (by decide), bf.1 41 (by decide), af.1 41 (by decide)]; exact m4
    · rw [e7, bff.1 42 (by decide), bf.1 42 (by decide), af.1 42 (by decide)]; exact m5
    · rw [bff.1 31 (by decide), bf.1 31 (by decide), af.1 31 (by decide)]
    · rw [bff.1 6 (by decide), bf.1 6 (by decide), a6]
  · have tc := T.2.2.2.2.1.mp t
    have te := T.2.2.2.2.2.1 t
    clear T
    have f28 : wpX11_part_28 ρ Q := by
      unfold wpX11_part_28
      have r : zI ρ 0 41 = -1 := by unfold RGr at m4; omega
      refine ⟨by omega, fun _ => ?_, fun q => absurd r (by omega)⟩
      have bf : fr [41] [] ρ (zsI ρ 0 41 (zI ρ 0 9)) := fr.rf.ti (by decide)
      have bG : GG (zsI ρ 0 41 (zI ρ 0 9)) := GG_41 hG l9
      refine h1 _ (hS.fr bf (by decide) (by decide) (by decide) (by decide) (by decide) (by decide) (by decide) (by decide)) ?_ hO ⟨m1, rfl, by rw [e3]; exact m3, ?_, by rw [e7]; exact m5⟩ (PR_op (by decide)) rfl rfl
      · rw [hC.m1 i0 i1 (by omega), e3]
        exact hB.fr bG bf (by decide) (by decide) (by decide) (by decide) (by decide) (by decide) (by decide)
      · rw [e6]
        exact Or.inr ⟨by omega, te⟩
    refine ⟨by omega, fun _ => ?_, fun q => by omega⟩
    refine r_isWord hG.2.1 (by decide) (fun q => ⟨by decide, fun _ => f28, fun q => absurd q (by decide)⟩) (fun q1 => ⟨by decide, fun q => absurd rfl q, fun _ => ?_⟩)
    refine r_isWord hG.2.1 (by decide) (fun q => ⟨by decide, fun q => absurd q (by decide), fun _ => f28⟩) (fun q2 => by omega)
  · have tc := T.2.2.2.2.1.mp t
    have te := T.2.2.2.2.2.1 t
    clear T
    refine ⟨by omega, fun _ => ?_, fun q => by omega⟩
    refine r_isWord hG.2.1 (by decide) (fun q => by omega) (fun _ => ⟨by decide, fun q => absurd rfl q, fun _ => ?_⟩)
    refine r_isWord hG.2.1 (by decide) (fun q => by omega) (fun _ => ⟨by decide, fun _ => ?_, fun q => absurd rfl q⟩)
    have r : zI ρ 0 42 = -1 := by unfold RGr at m5; omega
    refine r_isWord hG.2.1 (by decide) (fun q => ⟨by decide, fun q => absurd q (by decide), fun _ => ⟨by omega, fun _ => ?_, fun q => absurd r (by omega)⟩⟩) (fun q => by omega)
    have bf : fr [42] [] ρ (zsI ρ 0 42 (zI ρ 0 9)) := fr.rf.ti (by decide)
    have bG : GG (zsI ρ 0 42 (zI ρ 0 9)) := GG_42 hG l9
    refine h1 _ (hS.fr bf (by decide) (by decide) (by decide) (by decide) (by decide) (by decide) (by decide) (by decide)) ?_ hO ⟨m1, rfl, by rw [e3]; exact m3, by rw [e6]; exact m4, ?_⟩ (PR_op (by decide)) rfl rfl
    · rw [hC.m1 i0 i1 (by omega), e3]
      exact hB.fr bG bf (by decide) (by decide) (by decide) (by decide) (by decide) (by decide) (by decide)
    · rw [e7]
      exact Or.inr ⟨by omega, te⟩
theorem r_part0 {h : Int → Int} {L g : Int} {E : Int → Int} {σ ρ : ZS} {Q : Int → ZS → Prop} (hG : GG ρ) (hS : SY h L E σ (zI σ 14 4) ρ) (hM : MmR σ g ρ) (hp : PFl σ g) (h0 : Q 0 ρ) : wpX11_part ρ Q := by
  have T := hS.2.2.2.2.f
  obtain ⟨m1, m2, m3, m4, m5⟩ := hM
  have l7 := hG.2.1.2.2.1
  have l39 := hG.2.1.2.2.2.2.2.2.2.2.2.2.2.2.2.2.2.1
  have l41 := hG.2.1.2.2.2.2.2.2.2.2.2.2.2.2.2.2.2.2.1
  have l42 := hG.2.1.2.2.2.2.2.2.2.2.2.2.2.2.2.2.2.2.2.1
  obtain ⟨p1, p2, p3, p4⟩ := hp
  have n2' : ¬ zI ρ 0 7 = 2 := fun q => p1 (T.2.1.mpr q)
  have hb : zI ρ 0 7 = 1 → (zI ρ 0 9 = 3 ∨ zI ρ 0 9 = 5) → ¬ zI ρ 0 41 < 0 := by
    intro q1 q2 q3
    have t4 := T.2.2.2.2.1.mpr ⟨q1, by omega, by omega⟩
    have te := T.2.2.2.2.2.1 t4
    clear T
    rcases m4 with ⟨m, -⟩ | ⟨m, m'⟩
    · exact p3 ⟨t4, by omega, m⟩
    · omega
  have hi : zI ρ 0 7 = 1 → (zI ρ 0 9 = 6 ∨ zI ρ 0 9 = 7) → ¬ zI ρ 0 42 < 0 := by
    intro q1 q2 q3
    have t4 := T.2.2.2.2.1.mpr ⟨q1, by omega, by omega⟩
    have te := T.2.2.2.2.2.1 t4
    clear T
    rcases m5 with ⟨m, -⟩ | ⟨m, m'⟩
    · exact p4 ⟨t4, by omega, m⟩
    · omega
  have hn : zA σ 12 0 (zI σ 14 4) = 3 → ¬ zI ρ 0 39 < 0 := fun q z => p2 ⟨q, by omega⟩
  clear T p1 p2 p3 p4 m4 m5 m1 m2 m3
  unfold wpX11_part wpX11_part_91
  refine ⟨by omega, fun n2 => ?_, fun q => absurd q n2'⟩
  have f28 : zI ρ 0 7 = 1 → (zI ρ 0 9 = 3 ∨ zI ρ 0 9 = 5) → wpX11_part_28 ρ Q := by
    intro q q'
    unfold wpX11_part_28
    exact ⟨by omega, fun z => absurd z (hb q q'), fun _ => h0⟩
  refine r_isWord hG.2.1 (by decide) (fun q => ⟨by decide, fun _ => f28 q.1 (by omega), fun q => absurd q (by decide)⟩) (fun q1 => ⟨by decide, fun q => absurd rfl q, fun _ => ?_⟩)
  refine r_isWord hG.2.1 (by decide) (fun q => ⟨by decide, fun q => absurd q (by decide), fun _ => f28 q.1 (by omega)⟩) (fun q2 => ⟨by decide, fun _ => ?_, fun q => absurd rfl q⟩)
  refine r_isWord hG.2.1 (by decide) (fun q => ⟨by decide, fun q => absurd q (by decide), fun _ => ⟨by omega, fun z => absurd z (hi q.1 (by omega)), fun _ => h0⟩⟩) (fun q3 => ⟨by decide, fun _ => ?_, fun q => absurd rfl q⟩)
  exact r_isName hG.2.1 hS (fun t => ⟨by decide, fun q => absurd q (by decide), fun _ => ⟨by omega, fun z => absurd z (hn t), fun _ => h0⟩⟩) (fun t => ⟨by decide, fun _ => h0, fun q => absurd rfl q⟩)
