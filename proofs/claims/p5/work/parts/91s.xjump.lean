/-! X: jumps and calls on both sides -/
theorem r_nextD {h : Int → Int} {L i m : Int} {E M : Int → Int} {σ ρ : ZS} {d : YD} {pend : List Int} {Q : ZS → Prop} (hC : CT h L E M σ) (i0 : 0 ≤ i) (i1 : i < zI σ 12 3) (hS : SY h L E σ i ρ) (hB : RBd σ d ρ m pend) (hn : zA σ 12 0 i ≠ 0) (hQ : ∀ τ : ZS, SY h L E σ (i + 1) τ → RBd σ d τ m pend → Fresh τ → fr [5, 6, 7, 8, 9, 10] [] ρ τ → PR ρ τ → zI ρ 0 6 + 1 ≤ zI τ 0 6 → zI ρ 0 5 ≤ zI τ 0 6 → Q τ) : wpX11_next ρ Q := by
  have hG := hB.1
  refine s_nextG hG (fun τ g pr f nx s5 _ fs => ?_)
  have hi := hC.on i0 i1 hn
  have hlt := hG.2.2.1.2.1 (fun q => hn (hS.2.2.2.2.f.1.mpr q))
  exact hQ τ (SY_nxt hC.1.2.1 (by omega) hi hS.1 hS.2.1 hG.1.2.2 hC.2 hS.2.2.1 nx) (hB.fr g f) fs f pr (by omega) s5
/-- the byte of a branch -/
def jcd (c : Int) : Int := if c = 35 then 114 else if c = 36 then 115 else if c = 37 then 116 else if c = 38 then 117 else if c = 39 then 120 else if c = 40 then 121 else 226
theorem r_jumpCode {ρ : ZS} {c : Int} {Q : Int → ZS → Prop} (hc : 0 ≤ c ∧ c ≤ 100) (hQ : Q (jcd c) ρ) : wpX11_jumpCode c ρ Q := by
  unfold wpX11_jumpCode
  unfold jcd at hQ
  refine ⟨by omega, fun e => ?_, fun n1 => ⟨fun e => ?_, fun n2 => ⟨fun e => ?_, fun n3 => ⟨fun e => ?_, fun n4 => ⟨fun e => ?_, fun n5 => ⟨fun e => ?_, fun n6 => ?_⟩⟩⟩⟩⟩⟩
  · rw [if_pos e] at hQ; exact hQ
  · rw [if_neg n1, if_pos e] at hQ; exact hQ
  · rw [if_neg n1, if_neg n2, if_pos e] at hQ; exact hQ
  · rw [if_neg n1, if_neg n2, if_neg n3, if_pos e] at hQ; exact hQ
  · rw [if_neg n1, if_neg n2, if_neg n3, if_neg n4, if_pos e] at hQ; exact hQ
  · rw [if_neg n1, if_neg n2, if_neg n3, if_neg n4, if_neg n5, if_pos e] at hQ; exact hQ
  · rw [if_neg n1, if_neg n2, if_neg n3, if_neg n4, if_neg n5, if_neg n6] at hQ; exact hQ
theorem jcd_bd (c : Int) : 0 ≤ jcd c ∧ jcd c ≤ 255 := by
  unfold jcd
  repeat' split
  all_goals decide
theorem t_jump {h : Int → Int} {L t v c pp : Int} {E M : Int → Int} {σ : ZS} {Q : Int → ZS → Prop} (hP : PS σ) (hC : CT h L E M σ) (ho : zI σ 14 5 = 1) (hz : zI σ 13 7 ≤ 242) (htc : (c = 34 ∧ t = 9 ∧ v = 2) ∨ (c = 42 ∧ t = 11 ∧ v = 0) ∨ (c = 43 ∧ t = 12 ∧ v = 0) ∨ (35 ≤ c ∧ c ≤ 41 ∧ t = 10 ∧ v = jcd c)) (hpp : 0 ≤ pp ∧ pp ≤ 480) (hat1 : 1 ≤ zI σ 14 4) (hQ : ∀ (x : Int) (τ : ZS), CSt σ τ x → TSt h L E M σ τ x (wpX11_jump c pp) → Q x τ) : wpX8_named t v σ Q := by
  have jb := jcd_bd c
  have i0 := hP.2.2.1.1
  have i1 : zI σ 14 4 < zI σ 12 3 := by have := hP.2.2.1; omega
  refine x_named hP (fun _ => hat1) (by omega) (by omega) (by omega) (Or.inr (Or.inr ho)) (by omega) (fun t3 τ pg ta ts t11 t12 ty => hQ 1 τ ⟨by decide, pg, fun _ => ?_⟩ (fun ρ Qr rS rB rF r31 h1 h0 => ?_)) (fun t3 => hQ 0 σ ⟨by decide, PG.rf hP, fun q => absurd q (by decide)⟩ (fun ρ Qr rS rB rF r31 h1 h0 => ?_))
  · rw [ta]
    have := (hC.pl i0 i1 (by omega)).1
    omega
  · have hG := rB.1
    have ht := (rS.2.2.2.2.f.2.2.2.1.mp t3).1
    have hst := hG.2.2.1.2.1 (by omega)
    have hfr := rF ht
    have l2 := hG.2.1.2.1
    have l1 := hG.2.1.1
    unfold wpX11_jump
    refine r_isName hG.2.1 rS (fun _ => ⟨by decide, fun _ => ?_, fun q => absurd q (by decide)⟩) (fun q => absurd t3 q)
    refine r_name hC i0 i1 rS rB rF t3 (fun α aS aB af ap an => ?_)
    have a5 : zI α 0 5 = zI ρ 0 5 := af.1 5 (by decide)
    have a6 : zI α 0 6 = zI ρ 0 6 := af.1 6 (by decide)
    have a23 : zI α 0 23 = zI ρ 0 23 := af.1 23 (by decide)
    have a31 : zI α 0 31 = zI ρ 0 31 := af.1 31 (by decide)
    have f44 : ∀ s : Int, ((s = 4 ∧ c = 43) ∨ (s = 3 ∧ (c = 34 ∨ c = 42)) ∨ (s = 2 ∧ 35 ≤ c ∧ c ≤ 41)) → wpX11_jump_44 c pp (zA σ 12 1 (zI σ 14 4)) s α Qr := by
      intro s hs
      unfold wpX11_jump_44 wpX11_jump_126 wpX11_jump_132
      refine r_useD aS aB.d (by omega) an (by omega) (by omega) (fun β bS bB bf bp bu => ?_)
      refine r_nextD hC i0 i1 bS bB (by omega) (fun γ gS gB gF gf gp g1 g2 => ?_)
      have b6 : zI β 0 6 = zI α 0 6 := bf.1 6 (by decide)
      have g31 : zI γ 0 31 = zI ρ 0 31 := by rw [gf.1 31 (by decide), bf.1 31 (by decide)]; exact a31
      have e33 : zI γ 0 33 = 1 := by rw [gB.2.2.1]; exact ho
      have fin : ∀ ρ' : ZS, RBd σ (yI (yS σ) t v (zA σ 12 1 (zI σ 14 4))) ρ' (M (zI σ 14 4 + 1)) [] → KpF γ ρ' → PR γ ρ' → zI ρ' 0 31 ≤ zI γ 0 31 + 3 → Qr 1 ρ' := by
        intro ρ' rb kf pr e31
        have k6 := kf.2.2
        refine h1 rfl ρ' ?_ ?_ (kf.fresh gF) (ap.tr (bp.tr (gp.tr pr))) (by omega)
        · rw [ta]; exact (kf.sy gS).k t11 t12
        · rw [ta]; exact rb.b t11 pg.2.2 ty
      refine ⟨by omega, fun n4 => ⟨fun n2 => ⟨by omega, fun n34 => ?_, fun y34 => ?_⟩, fun y2 => ?_⟩, fun y4 => ?_⟩
      · refine x_piece gB.1 e33 (by omega) (by decide) (fun _ _ => ⟨an.1, an.2.1⟩) (fun q => absurd q (by decide)) (by omega) (by decide) hpp (fun q => by omega) (fun ρ' e x => fin ρ' ?_ e.kf e.2.1 (by have := e.2.2.2.2; omega))
        rw [show t = 11 by omega, show s = 3 by omega] at *
        exact gB.piece e x
      · refine x_piece gB.1 e33 (by omega) (by decide) (fun _ _ => ⟨an.1, an.2.1⟩) (fun q => absurd q (by decide)) (by omega) (by decide) hpp (fun q => by omega) (fun ρ' e x => fin ρ' ?_ e.kf e.2.1 (by have := e.2.2.2.2; omega))
        rw [show t = 9 by omega, show s = 3 by omega] at *
        exact gB.piece e x
      · refine r_jumpCode (by omega) ?_
        refine x_piece gB.1 e33 (by omega) (by decide) (fun _ _ => ⟨an.1, an.2.1⟩) (fun q => absurd q (by decide)) (by omega) (by omega) hpp (fun q => by omega) (fun ρ' e x => fin ρ' ?_ e.kf e.2.1 (by have := e.2.2.2.2; omega))
        have ev : v = jcd c := by omega
        rw [show t = 10 by omega, ev]
        subst y2
        exact gB.piece e x
      · have hu := gp.hasUse (bu y4)
        refine x_octet gB.1 e33 (by omega) (by decide) (fun ρ4 e4 x4 => ?_)
        have j6 := e4.s6
        have j31 := e4.2.2.2.2
        refine x_piece e4.1 (e4.s33 e33) (by omega) (by decide) (fun _ _ => ⟨an.1, an.2.1⟩) (fun q => absurd q (by decide)) (by omega) (by decide) (by decide) (fun _ => e4.2.1.hasUse hu) (fun ρ5 e5 x5 => ?_)
        have m6 := e5.s6
        have m31 := e5.2.2.2.2
        refine x_piece e5.1 (e5.s33 (e4.s33 e33)) (by omega) (by decide) (fun _ _ => ⟨an.1, an.2.1⟩) (fun q => absurd q (by decide)) (by omega) (by decide) (by decide) (fun _ => e5.2.1.hasUse (e4.2.1.hasUse hu)) (fun ρ6 e6 x6 => fin ρ6 ?_ (e4.kf.tr (e5.kf.tr e6.kf)) (e4.2.1.tr (e5.2.1.tr e6.2.1)) (by have := e6.2.2.2.2; omega))
        rw [show t = 12 by omega]
        subst y4
        exact ((gB.piece e4 x4).piece e5 x5).piece e6 x6
    refine ⟨by omega, fun n43 => ⟨fun y34 => ?_, fun n34 => ⟨fun n42 => f44 2 (by omega), fun y42 => ?_⟩⟩, fun y43 => f44 4 (by omega)⟩
    · unfold wpX11_jump_39; exact f44 3 (by omega)
    · unfold wpX11_jump_39; exact f44 3 (by omega)
  · unfold wpX11_jump
    exact r_isName rB.1.2.1 rS (fun q => absurd q t3) (fun _ => ⟨by decide, fun q => absurd rfl q, fun _ => s_fault ⟨by decide, h0 rfl _ (GG_34 rB.1) PR_fault⟩⟩)
