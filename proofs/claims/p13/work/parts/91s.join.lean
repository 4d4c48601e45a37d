/-! X: jumps and calls on both sides -/
theorem r_nextD {h : Int → Int} {L i m : Int} {E M : Int → Int} {σ ρ : ZS} {d : YD} {pend : List Int} {Q : ZS → Prop} (hC : CT h L E M σ) (i0 : 0 ≤ i) (i1 : i < zI σ 12 3) (hS : SY h L E σ i ρ) (hB : RBd σ d ρ m pend) (hn : zA σ 12 0 i ≠ 0) (hQ : ∀ τ : ZS, SY h L E σ (i + 1) τ → RBd σ d τ m pend → Fresh τ → fr [5, 6, 7, 8, 9, 10] [] ρ τ → PR ρ τ → zI ρ 0 6 + 1 ≤ zI τ 0 6 → zI ρ 0 5 ≤ zI τ 0 6 → Q τ) : wpX11_next ρ Q := by
  have hG := hB.1
  refine s_nextG hG (fun τ g pr f nx s5 _ fs => ?_)
  have hi := hC.on i0 i1 hn
  have hlt := hG.2.2.1.2.1 (fun q => hn (hS.2.2.2.2.f.1.mpr q))
  exact hQ τ (SY_nxt hC.1.2.1 (by omega) hi hS.1 hS.2.1 hG.1.2.2 hC.2 hS.2.2.1 nx) (hB.fr g f) fs f pr (by omega) s5
/-- the byte of a branch -/
def jcd (c : Int) : Int := if c = 35 then 114 else if c = 36 then 115 else if c = 37 then 116 else if c = 38 then 117 else if c = 39 then 120 else if c = 40 then 121 else 226
theorem r_jumpCode {ρ : ZS} {c : Int} {Q : Int → ZS → Prop} (hc : 0 ≤ c ∧ c ≤ 100) (hQ : Q (jcd c) ρ) : wpX11_jumpCode c ρ Q := by
  unfold wpX11_jumpCode
  unfold jcd at hQ
  refine ⟨by omega, fun e => ?_, fun n1 => ⟨fun e => ?_, fun n2 => ⟨fun e => ?_, fun n3 => ⟨fun e => ?_, fun n4 => ⟨fun e => ?_, fun n5 => ⟨fun e => ?_, fun n6 => ?_⟩⟩⟩⟩⟩⟩
  · rw [if_pos e] at hQ; exact hQ
  · rw [if_neg n1, if_pos e] at hQ; exact hQ
  · rw [if_neg n1, if_neg n2, if_pos e] at hQ; exact hQ
  · rw [if_neg n1, if_neg n2, if_neg n3, if_pos e] at hQ; exact hQ
  · rw [if_neg n1, if_neg n2, if_neg n3, if_neg n4, if_pos e] at hQ; exact hQ
  · rw [if_neg n1, if_neg n2, if_neg n3, if_neg n4, if_neg n5, if_pos e] at hQ; exact hQ
  · rw [if_neg n1, if_neg n2, if_neg n3, if_neg n4, if_neg n5, if_neg n6] at hQ; exact hQ
theorem jcd_bd (c : Int) : 0 ≤ jcd c ∧ jcd c ≤ 255 := by
  unfold jcd
  repeat' split
  all_goals decide
theorem t_jump {h : Int → Int} {L t v c pp : Int} {E M : Int → Int} {σ : ZS} {Q : Int → ZS → Prop} (hP : PS σ) (hC : CT h L E M σ) (ho : zI σ 14 5 = 1) (hz : zI σ 13 7 ≤ 242) (htc : (c = 34 ∧ t = 9 ∧ v = 2) ∨ (c = 42 ∧ t = 11 ∧ v = 0) ∨ (c = 43 ∧ t = 12 ∧ v = 0) ∨ (35 ≤ c ∧ c ≤ 41 ∧ t = 10 ∧ v = jcd c)) (hpp : 0 ≤ pp ∧ pp ≤ 480) (hat1 : 1 ≤ zI σ 14 4) (hQ : ∀ (x : Int) (τ : ZS), CSt σ τ x → TSt h L E M σ τ x (wpX11_jump c pp) → Q x τ) : wpX8_named t v σ Q := by
  have jb := jcd_bd c
  have i0 := hP.2.2.1.1
  have i1 : zI σ 14 4 < zI σ 12 3 := by have := hP.2.2.1; omega
  refine x_named hP (fun _ => hat1) (by omega) (by omega) (by omega) (Or.inr (Or.inr ho)) (by omega) (fun t3 τ pg ta ts t11 t12 ty => hQ 1 τ ⟨by decide, pg, fun _ => ?_⟩ (fun ρ Qr rS rB rF r31 h1 h0 => ?_)) (fun t3 => hQ 0 σ ⟨by decide, PG.rf hP, fun q => absurd q (by decide)⟩ (fun ρ Qr rS rB rF r31 h1 h0 => ?_))
  · rw [ta]
    have := (hC.pl i0 i1 (by omega)).1
    omega
  · have hG := rB.1
    have ht := (rS.2.2.2.2.f.2.2.2.1.mp t3).1
    have hst := hG.2.2.1.2.1 (by omega)
    have hfr := rF ht
    have l2 := hG.2.1.2.1
    have l1 := hG.2.1.1
    unfold wpX11_jump
    refine r_isName hG.2.1 rS (fun _ => ⟨by decide, fun _ => ?_, fun q => absurd q (by decide)⟩) (fun q => absurd t3 q)
    refine r_name hC i0 i1 rS rB rF t3 (fun α aS aB af ap an => ?_)
    have a5 : zI α 0 5 = zI ρ 0 5 := af.1 5 (by decide)
    have a6 : zI α 0 6 = zI ρ 0 6 := af.1 6 (by decide)
    have a23 : zI α 0 23 = zI ρ 0 23 := af.1 23 (by decide)
    have a31 : zI α 0 31 = zI ρ 0 31 := af.1 31 (by decide)
    have f44 : ∀ s : Int, ((s = 4 ∧ c = 43) ∨ (s = 3 ∧ (c = 34 ∨ c = 42)) ∨ (s = 2 ∧ 35 ≤ c ∧ c ≤ 41)) → wpX11_jump_44 c pp (zA σ 12 1 (zI σ 14 4)) s α Qr := by
      intro s hs
      unfold wpX11_jump_44 wpX11_jump_126 wpX11_jump_132
      refine r_useD aS aB.d (by omega) an (by omega) (by omega) (fun β bS bB bf bp bu => ?_)
      refine r_nextD hC i0 i1 bS bB (by omega) (fun γ gS gB gF gf gp g1 g2 => ?_)
      have b6 : zI β 0 6 = zI α 0 6 := bf.1 6 (by decide)
      have g31 : zI γ 0 31 = zI ρ 0 31 := by rw [gf.1 31 (by decide), bf.1 31 (by decide)]; exact a31
      have e33 : zI γ 0 33 = 1 := by rw [gB.2.2.1]; exact ho
      have fin : ∀ ρ' : ZS, RBd σ (yI (yS σ) t v (zA σ 12 1 (zI σ 14 4))) ρ' (M (zI σ 14 4 + 1)) [] → KpF γ ρ' → PR γ ρ' → zI ρ' 0 31 ≤ zI γ 0 31 + 3 → Qr 1 ρ' := by
        intro ρ' rb kf pr e31
        have k6 := kf.2.2
        refine h1 rfl ρ' ?_ ?_ (kf.fresh gF) (ap.tr (bp.tr (gp.tr pr))) (by omega)
        · rw [ta]; exact (kf.sy gS).k t11 t12
        · rw [ta]; exact rb.b t11 pg.2.2 ty
      refine ⟨by omega, fun n4 => ⟨fun n2 => ⟨by omega, fun n34 => ?_, fun y34 => ?_⟩, fun y2 => ?_⟩, fun y4 => ?_⟩
      · refine x_piece gB.1 e33 (by omega) (by decide) (fun _ _ => ⟨an.1, an.2.1⟩) (fun q => absurd q (by decide)) (by omega) (by decide) hpp (fun q => by omega) (fun ρ' e x => fin ρ' ?_ e.kf e.2.1 (by have := e.2.2.2.2; omega))
        rw [show t = 11 by omega, show s = 3 by omega] at *
        exact gB.piece e x
      · refine x_piece gB.1 e33 (by omega) (by decide) (fun _ _ => ⟨an.1, an.2.1⟩) (fun q => absurd q (by decide)) (by omega) (by decide) hpp (fun q => by omega) (fun ρ' e x => fin ρ' ?_ e.kf e.2.1 (by have := e.2.2.2.2; omega))
        rw [show t = 9 by omega, show s = 3 by omega] at *
        exact gB.piece e x
      · refine r_jumpCode (by omega) ?_
        refine x_piece gB.1 e33 (by omega) (by decide) (fun _ _ => ⟨an.1, an.2.1⟩) (fun q => absurd q (by decide)) (by omega) (by omega) hpp (fun q => by omega) (fun ρ' e x => fin ρ' ?_ e.kf e.2.1 (by have := e.2.2.2.2; omega))
        have ev : v = jcd c := by omega
        rw [show t = 10 by omega, ev]
        subst y2
        exact gB.piece e x
      · have hu := gp.hasUse (bu y4)
        refine x_octet gB.1 e33 (by omega) (by decide) (fun ρ4 e4 x4 => ?_)
        have j6 := e4.s6
        have j31 := e4.2.2.2.2
        refine x_piece e4.1 (e4.s33 e33) (by omega) (by decide) (fun _ _ => ⟨an.1, an.2.1⟩) (fun q => absurd q (by decide)) (by omega) (by decide) (by decide) (fun _ => e4.2.1.hasUse hu) (fun ρ5 e5 x5 => ?_)
        have m6 := e5.s6
        have m31 := e5.2.2.2.2
        refine x_piece e5.1 (e5.s33 (e4.s33 e33)) (by omega) (by decide) (fun _ _ => ⟨an.1, an.2.1⟩) (fun q => absurd q (by decide)) (by omega) (by decide) (by decide) (fun _ => e5.2.1.hasUse (e4.2.1.hasUse hu)) (fun ρ6 e6 x6 => fin ρ6 ?_ (e4.kf.tr (e5.kf.tr e6.kf)) (e4.2.1.tr (e5.2.1.tr e6.2.1)) (by have := e6.2.2.2.2; omega))
        rw [show t = 12 by omega]
        subst y4
        exact ((gB.piece e4 x4).piece e5 x5).piece e6 x6
    refine ⟨by omega, fun n43 => ⟨fun y34 => ?_, fun n34 => ⟨fun n42 => f44 2 (by omega), fun y42 => ?_⟩⟩, fun y43 => f44 4 (by omega)⟩
    · unfold wpX11_jump_39; exact f44 3 (by omega)
    · unfold wpX11_jump_39; exact f44 3 (by omega)
  · unfold wpX11_jump
    exact r_isName rB.1.2.1 rS (fun q => absurd q t3) (fun _ => ⟨by decide, fun q => absurd rfl q, fun _ => s_fault ⟨by decide, h0 rfl _ (GG_34 rB.1) PR_fault⟩⟩)
/-! X: a number behind a word, on both sides -/
theorem x_numbered {t l : Int} {σ : ZS} {Q : Int → ZS → Prop} (h : PS σ) (ht : (t = 4 ∧ l = 256) ∨ (t = 5 ∧ l = 65)) (ho : zI σ 14 5 = 1) (hz : zI σ 13 7 < 248) (h1 : zA σ 12 0 (zI σ 14 4) = 2 → zA σ 12 1 (zI σ 14 4) < l → ∀ τ : ZS, PG σ τ → zI τ 14 4 = zI σ 14 4 + 1 → zI τ 13 7 = zI σ 13 7 + 1 → ob τ 11 = ob σ 11 → ob τ 12 = ob σ 12 → yS τ = yI (yS σ) t (zA σ 12 1 (zI σ 14 4)) (-1) → Q 1 τ) (h0 : ¬ (zA σ 12 0 (zI σ 14 4) = 2 ∧ zA σ 12 1 (zI σ 14 4) < l) → Q 0 σ) : wpX8_numbered t l σ Q := by
  have tk := h.tk
  obtain ⟨t1, t2, t3, t4⟩ := tk
  have hN := h.2.2.2.2.2.2
  unfold wpX8_numbered wpX8_numbered_16
  refine c_type h ⟨by omega, fun n2 => h0 (fun q => n2 q.1), fun e2 => c_value h ⟨by omega, by omega, fun lt => c_value h ?_, fun nl => h0 (fun q => nl q.2)⟩⟩
  refine x_add h ⟨by omega, t2, by omega, by decide, by decide, fun q1 q2 => absurd ht (by omega), fun q => absurd q (by decide), fun q => by omega, fun q => absurd q (by omega), fun q => absurd q (by omega)⟩ (Or.inr (Or.inr (Or.inr ho))) hz (fun τ tp tk _ ts ty => h1 e2 lt _ (((PG.rf h).ad tp tk).on ?_) ?_ ts ((ob_i (by decide)).trans (tk 11 (by decide))) ((ob_i (by decide)).trans (tk 12 (by decide))) ((yS.k (ob_i (by decide))).trans ty))
  · rw [tk.A (by decide) 0, tk.I (by decide) 4]; omega
  · rw [zI_s, tk.I (by decide) 4]
/-- space -/
theorem t_space {h : Int → Int} {L : Int} {E M : Int → Int} {σ : ZS} {Q : Int → ZS → Prop} (hP : PS σ) (hC : CT h L E M σ) (ho : zI σ 14 5 = 1) (hz : zI σ 13 7 ≤ 242) (hQ : ∀ (x : Int) (τ : ZS), CSt σ τ x → TSt h L E M σ τ x (wpX11_data 17) → Q x τ) : wpX8_numbered 5 65 σ Q := by
  have i0 := hP.2.2.1.1
  have i1 : zI σ 14 4 < zI σ 12 3 := by have := hP.2.2.1; omega
  have v0 := hP.tk.2.1
  refine x_numbered hP (Or.inr ⟨rfl, rfl⟩) ho (by omega) (fun t2 lt τ pg ta ts t11 t12 ty => hQ 1 τ ⟨by decide, pg, fun _ => ?_⟩ (fun ρ Qr rS rB rF r31 h1 h0 => ?_)) (fun nt => hQ 0 σ ⟨by decide, PG.rf hP, fun q => absurd q (by decide)⟩ (fun ρ Qr rS rB rF r31 h1 h0 => ?_))
  · rw [ta]
    have := (hC.pl i0 i1 (by omega)).1
    omega
  · have T2 := rS.2.2.2.2.f.2.1.mp t2
    have Tv := rS.2.2.2.2.f.2.2.1 t2
    have e33 : zI ρ 0 33 = 1 := by rw [rB.2.2.1]; exact ho
    unfold wpX11_data
    refine ⟨by decide, fun q => absurd rfl q, fun _ => ⟨by omega, fun q => absurd T2 q, fun _ => ⟨by omega, fun _ => ?_, fun q => by omega⟩⟩⟩
    refine x_piece rB.1 e33 (by omega) (by decide) (fun _ q => absurd q (by decide)) (fun _ => by omega) (by omega) (by decide) (by decide) (fun q => by omega) (fun ρ' e x => ?_)
    have j6 := e.s6
    have j31 := e.2.2.2.2
    refine r_nextD hC i0 i1 (e.sy rS) (rB.d.piece e x) (by omega) (fun γ gS gB gF gf gp g1 g2 => h1 rfl γ ?_ ?_ gF (e.2.1.tr gp) ?_)
    · rw [ta]; exact gS.k t11 t12
    · rw [ta, hC.m1 i0 i1 (by omega)]
      refine gB.b t11 pg.2.2 ?_
      rw [ty, Tv]; rfl
    · have := gf.1 31 (by decide)
      omega
  · have T2 := rS.2.2.2.2.f.2.1
    have Tv := rS.2.2.2.2.f.2.2.1
    have l7 := rB.1.2.1.2.2.1
    have l10 := rB.1.2.1.2.2.2.2.1
    have bad : wpX11_data_23 ρ Qr := by
      unfold wpX11_data_23
      exact s_fault ⟨by decide, h0 rfl _ (GG_34 rB.1) PR_fault⟩
    unfold wpX11_data
    refine ⟨by decide, fun q => absurd rfl q, fun _ => ⟨by omega, fun _ => bad, fun q => ⟨by omega, fun le => ?_, fun _ => bad⟩⟩⟩
    have t2 := T2.mpr q
    exact absurd ⟨t2, by have := Tv t2; omega⟩ nt
/-! X: byte on both sides, in step -/
/-- both at the head of an element -/
def HdB (h : Int → Int) (L : Int) (E M : Int → Int) (ρ0 τ ρ : ZS) : Prop := SY h L E τ (zI τ 14 4) ρ ∧ RB τ ρ (M (zI τ 14 4)) [] ∧ Fresh ρ ∧ PR ρ0 ρ ∧ zI ρ 0 31 + 2 ≤ 2 * zI ρ 0 6
theorem t_bytes {h : Int → Int} {L : Int} {E M : Int → Int} {σ : ZS} {Q : Int → ZS → Prop} (hP : PS σ) (hC : CT h L E M σ) (ho : zI σ 14 5 = 1) (hz : 2 * zI σ 13 7 ≤ zA σ 12 2 (zI σ 14 4) + 2) (hQ : ∀ (x : Int) (τ : ZS), CSt σ τ x → TSt h L E M σ τ x (wpX11_data 16) → Q x τ) : wpX8_bytes σ Q := by
  have start : ∀ ρ : ZS, SY h L E σ (zI σ 14 4) ρ → RB σ ρ (M (zI σ 14 4)) [] → Fresh ρ → zI ρ 0 31 + 2 ≤ 2 * zI ρ 0 6 → HdB h L E M ρ σ ρ := fun ρ a b c d => ⟨a, b, c, PR.rf, d⟩
  have open16 : ∀ (ρ : ZS) (Qr : Int → ZS → Prop), wpX11_data_48 16 1 ρ Qr → wpX11_data 16 ρ Qr := by
    intro ρ Qr k
    unfold wpX11_data
    exact ⟨by decide, fun _ => k, fun q => absurd q (by decide)⟩
  unfold wpX8_bytes wpX8_bytes_2
  refine lfp1_ind (fun v _ => (481 - v).toNat) (fun v τ => PG σ τ ∧ (0 ≤ v ∧ v ≤ 481) ∧ v ≤ zI τ 14 4 ∧ (2 * zI τ 13 7 ≤ 2 * zI σ 13 7 + (zA σ 12 2 (zI τ 14 4) - zA σ 12 2 (zI σ 14 4)) ∧ zA σ 12 2 (zI σ 14 4) ≤ zA σ 12 2 (zI τ 14 4)) ∧ (∀ (ρ0 : ZS) (Qr : Int → ZS → Prop) (K : Int → ZS → Prop), (∀ (a : Int) (υ : ZS), wpbX11_data_48 K 16 a υ Qr → K a υ) → (∀ ρ' : ZS, HdB h L E M ρ0 τ ρ' → K 1 ρ') → ∀ ρ : ZS, HdB h L E M ρ0 σ ρ → K 1 ρ)) (fun K v τ hI ih => ?_) ⟨PG.rf hP, by decide, hP.2.2.1.1, by omega, fun ρ0 Qr K hK hG ρ hh => hG ρ hh⟩
  obtain ⟨tg, v0, va, tz, tr⟩ := hI
  have hz' := tg.1.1.1
  have hat := tg.1.2.2.1
  have e11 : ob τ 11 = ob σ 11 := tg.2.1 11 (by decide)
  have e12 : ob τ 12 = ob σ 12 := tg.2.1 12 (by decide)
  have hCt := hC.k e11 e12
  have w2 : zA τ 12 2 = zA σ 12 2 := ob_A e12 2
  have o1 : zI τ 14 5 = 1 := tg.2.2.trans ho
  have i0 := hat.1
  have i1 : zI τ 14 4 < zI τ 12 3 := by omega
  have tk := tg.1.tk
  have tp := tk.2.2.1
  rw [w2] at tp
  unfold wpbX8_bytes_2
  refine ⟨by omega, by omega, fun q => by omega, fun _ => x_numbered tg.1 (Or.inl ⟨rfl, rfl⟩) o1 (by omega) (fun t2 lt ω wg wa ws w11 w12 wy => ⟨by decide, fun _ => ?_, fun q => absurd q (by decide)⟩) (fun nt => ⟨by decide, fun q => absurd rfl q, fun _ => hQ 0 τ ⟨by decide, tg, fun q => absurd q (by decide)⟩ (fun ρ Qr rS rB rF r31 h1 h0 => open16 ρ Qr ?_)⟩)⟩
  rotate_left
  · unfold wpX11_data_48
    intro P hPP
    refine tr ρ Qr P hPP (fun ρ' hm => hPP _ _ ?_) ρ (start ρ rS rB rF r31)
    obtain ⟨mS, mB, mF, mp, m31⟩ := hm
    have T2 := mS.2.2.2.2.f.2.1
    have Tv := mS.2.2.2.2.f.2.2.1
    have l7 := mB.1.2.1.2.2.1
    have l10 := mB.1.2.1.2.2.2.2.1
    have bad : wpX11_data_76 ρ' Qr := by
      unfold wpX11_data_76
      exact s_fault ⟨by decide, h0 rfl _ (GG_34 mB.1) (mp.tr PR_fault)⟩
    unfold wpbX11_data_48
    refine ⟨by decide, fun q => absurd q (by decide), fun _ => ⟨by decide, fun q => absurd rfl q, fun _ => ⟨by omega, fun _ => bad, fun q => ⟨by omega, fun le => ?_, fun _ => bad⟩⟩⟩⟩
    have t2 := T2.mpr q
    exact absurd ⟨t2, by have := Tv t2; omega⟩ nt
  have pl := (hCt.pl i0 i1 (by omega)).1
  rw [w2] at pl
  have hCw := hCt.k w11 w12
  have j0 := wg.1.2.2.1
  have ew3 : zI ω 12 3 = zI τ 12 3 := ob_I w12 3
  have tgw := tg.tr wg
  have ww2 : zA ω 12 2 = zA σ 12 2 := (ob_A w12 2).trans w2
  -- the reference's element: a byte, then what follows
  have elem : ∀ (ρ0 : ZS) (Qr : Int → ZS → Prop) (P : Int → ZS → Prop), (∀ (a : Int) (υ : ZS), wpbX11_data_48 P 16 a υ Qr → P a υ) → (∀ γ : ZS, SY h L E ω (zI ω 14 4) γ → RB ω γ (M (zI ω 14 4)) [] → Fresh γ → PR ρ0 γ → zI γ 0 31 + 3 ≤ 2 * zI γ 0 6 → wpX11_data_109 P 16 γ Qr) → ∀ ρ' : ZS, HdB h L E M ρ0 τ ρ' → P 1 ρ' := by
    intro ρ0 Qr P hPP k ρ' hm
    obtain ⟨mS, mB, mF, mp, m31⟩ := hm
    have T2 := mS.2.2.2.2.f.2.1.mp t2
    have Tv := mS.2.2.2.2.f.2.2.1 t2
    have v0' := tk.2.1
    have e33 : zI ρ' 0 33 = 1 := by rw [mB.2.2.1]; exact o1
    refine hPP _ _ ?_
    unfold wpbX11_data_48
    refine ⟨by decide, fun q => absurd q (by decide), fun _ => ⟨by decide, fun q => absurd rfl q, fun _ => ⟨by omega, fun q => absurd T2 q, fun _ => ⟨by omega, fun _ => ?_, fun q => by omega⟩⟩⟩⟩
    refine r_octD mB.d e33 (by omega) (by omega) (fun ρ1 b1 e1 => ?_)
    have j6 := e1.s6
    have j31 := e1.2.2.2.2
    refine r_nextD hCt i0 i1 (e1.sy mS) b1 (by omega) (fun γ gS gB gF gf gp g1 g2 => k γ ?_ ?_ gF (mp.tr (e1.2.1.tr gp)) ?_)
    · rw [wa]; exact gS.k w11 w12
    · rw [wa, hCt.m1 i0 i1 (by omega)]
      refine gB.b w11 wg.2.2 ?_
      rw [wy, Tv]; rfl
    · have := gf.1 31 (by decide)
      omega
  refine c_take wg.1 (by decide) (fun e44 p => ⟨by decide, fun _ => ih _ _ ⟨tgw.on (by omega), by omega, ?_, ?_, fun ρ0 Qr P hPP hG ρ hh => tr ρ0 Qr P hPP (elem ρ0 Qr P hPP (fun γ gS gB gF gp g31 => ?_)) ρ hh⟩ (by omega), fun q => absurd q (by decide)⟩) (fun n44 => ⟨by decide, fun q => absurd rfl q, fun _ => hQ 1 ω ⟨by decide, tgw, fun _ => ?_⟩ (fun ρ Qr rS rB rF r31 h1 h0 => open16 ρ Qr ?_)⟩)
  · rw [zI_s]; omega
  · have pw := (hCw.pl (i := zI ω 14 4) (by omega) (by omega) (by omega)).1
    rw [ww2] at pw
    show 2 * zI ω 13 7 ≤ 2 * zI σ 13 7 + (zA σ 12 2 (zI ω 14 4 + 1) - zA σ 12 2 (zI σ 14 4)) ∧ zA σ 12 2 (zI σ 14 4) ≤ zA σ 12 2 (zI ω 14 4 + 1)
    rw [wa] at pw ⊢
    omega
  · have T44 := (gS.2.2.2.2.sg (a := 44) (by unfold cS; omega)).mpr e44
    have l7 := gB.1.2.1.2.2.1
    unfold wpX11_data_109 wpX11_data_123
    refine ⟨by omega, fun q => absurd T44 q, fun _ => ⟨by decide, fun q => absurd q (by decide), fun _ => ?_⟩⟩
    refine r_next hCw (by omega) (by omega) gS gB (by omega) (fun δ dS dB dF df dp d1 d2 => hG δ ⟨?_, ?_, dF, gp.tr dp, ?_⟩)
    · rw [show zI (zsI ω 14 4 (zI ω 14 4 + 1)) 14 4 = zI ω 14 4 + 1 from zI_s]
      exact dS.k (ob_i (by decide)) (ob_i (by decide))
    · rw [show zI (zsI ω 14 4 (zI ω 14 4 + 1)) 14 4 = zI ω 14 4 + 1 from zI_s, hCw.m1 (by omega) (by omega) (by omega)]
      exact dB.k (ob_i (by decide)) (ob_i (by decide)) (zI_f (by decide))
    · have := df.1 31 (by decide)
      omega
  · rw [wa]
    omega
  · unfold wpX11_data_48
    intro P hPP
    refine tr ρ Qr P hPP (elem ρ Qr P hPP (fun γ gS gB gF gp g31 => ?_)) ρ (start ρ rS rB rF r31)
    have N44 : ¬ zI γ 0 7 = 44 := fun q => n44 ((gS.2.2.2.2.sg (a := 44) (by unfold cS; omega)).mp q)
    have l7 := gB.1.2.1.2.2.1
    unfold wpX11_data_109 wpX11_data_123
    refine ⟨by omega, fun _ => ⟨by decide, fun _ => hPP _ _ ?_, fun q => absurd rfl q⟩, fun q => absurd q N44⟩
    unfold wpbX11_data_48
    exact ⟨by decide, fun _ => h1 rfl γ gS gB gF gp (by omega), fun q => absurd rfl q⟩
/-! X: a value alone, on both sides -/
theorem x_opVal {g : Int} {σ : ZS} {Q : Int → ZS → Prop} (hg : 5 ≤ g ∧ g ≤ 6) (hP : PS σ) (h1 : ∀ τ : ZS, OG g σ τ → OPI τ g → VRs σ g τ → Q 1 τ) (h0 : VFl σ → ∀ τ : ZS, OG g σ τ → Q 0 τ) : wpX8_operand g 4 σ Q := by
  have ht := hP.tk
  have r0 := OG.rf (g := g) hP
  have f143 : wpX8_operand_143 g 4 σ Q := by
    unfold wpX8_operand_143 wpX8_operand_161 wpX8_operand_162
    exact ⟨zand_bd _ _, fun z => absurd z (by decide), fun _ => x_plainValue hg hP (fun τ og oi vr => ⟨by decide, fun q => absurd q (by decide), fun _ => ⟨by decide, h1 τ og oi vr⟩⟩) (fun vf τ og => ⟨by decide, fun _ => ⟨by decide, h0 vf τ og⟩, fun q => absurd rfl q⟩)⟩
  have f100 : ∀ s : Int, (s = 8 ∨ s = 16) → zA σ 12 0 (zI σ 14 4) = 5 → wpX8_operand_100 g 4 s σ Q := by
    intro s hs t
    unfold wpX8_operand_100 wpX8_operand_121 wpX8_operand_122
    refine ⟨zand_bd _ _, fun _ => ⟨by decide, h0 ⟨by omega, by omega, by omega⟩ _ r0⟩, fun z => ?_⟩
    rcases hs with rfl | rfl
    · exact absurd (by decide) z
    · exact absurd (by decide) z
  unfold wpX8_operand wpX8_operand_83 wpX8_operand_84 wpX8_operand_141 wpX8_operand_142
  exact c_type hP ⟨by have := ht.1; omega, fun _ => f143, fun n2 => ⟨fun _ => f143, fun n3 => ⟨fun e4 => ⟨fun _ => ⟨by decide, h0 ⟨n2, n3, by omega⟩ _ r0⟩, fun z => absurd (by decide) z⟩, fun _ => ⟨fun e5 => c_value hP ⟨by have := ht.2.1; omega, fun _ => f100 8 (Or.inl rfl) e5, fun _ => f100 16 (Or.inr rfl) e5⟩, fun _ => ⟨fun _ => f143, fun n64 => ⟨fun e91 => ⟨zand_bd _ _, fun _ => ⟨by decide, h0 ⟨n2, n3, by omega⟩ _ r0⟩, fun z => absurd (by decide) z⟩, fun _ => h0 ⟨n2, n3, by omega⟩ _ r0⟩⟩⟩⟩⟩⟩
/-- the reference's value where the class has one -/
theorem r_valOK {h : Int → Int} {L g : Int} {E M : Int → Int} {σ τ ρ : ZS} {p0 : List Int} {Qr : Int → ZS → Prop} (hg : 5 ≤ g ∧ g ≤ 6) (hC : CT h L E M σ) (hP : PS σ) (og : OG g σ τ) (vr : VRs σ g τ) (rS : SY h L E σ (zI σ 14 4) ρ) (rB : RB σ ρ (M (zI σ 14 4)) p0) (rF : Fresh ρ) (rQ : ∀ ρ' : ZS, SY h L E τ (zI τ 14 4) ρ' → RB τ ρ' (M (zI τ 14 4)) (p0 ++ nm (zI τ g 3)) → Opd ρ 1 ρ' → OR τ g ρ' → Qr 1 ρ') : wpX11_value ρ Qr := by
  have ht := hP.tk
  have lv := og.lv hg
  have i0 := hP.2.2.1.1
  have i1 : zI σ 14 4 < zI σ 12 3 := by have := hP.2.2.1; omega
  refine r_value hC i0 i1 rS rB rF (fun t ρ' s1 s2 s3 s4 s5 => ?_) (fun t ρ' s1 s2 s3 s4 s5 => ?_) (fun t t' ρ' s1 s2 s3 s4 s5 => ?_) (fun vf ρ' s1 s2 => ?_)
  · rcases vr.2 with ⟨-, e, e3, e2⟩ | ⟨t', -⟩ | ⟨t', -⟩
    · refine rQ ρ' (by rw [e]; exact s1.k lv.1 lv.2.1) ?_ s3 (Or.inr (Or.inr (Or.inr ⟨vr.1, Or.inl ⟨e3, s4, by rw [e2]; exact s5⟩⟩)))
      rw [e, e3, show nm (-1) = [] from rfl, List.append_nil]
      exact s2.k lv.1 lv.2.2.1 lv.2.2.2
    · omega
    · omega
  · rcases vr.2 with ⟨t', -⟩ | ⟨-, e, e3, e5, e2⟩ | ⟨t', -⟩
    · omega
    · have v0 := ht.2.1.1
      refine rQ ρ' (by rw [e]; exact s1.k lv.1 lv.2.1) ?_ s3 (Or.inr (Or.inr (Or.inr ⟨vr.1, Or.inr ⟨by omega, e2, by rw [e3]; exact s5, Or.inl ⟨e5, s4⟩⟩⟩)))
      rw [e, e3, show nm (zA σ 12 1 (zI σ 14 4)) = [zA σ 12 1 (zI σ 14 4)] from if_pos v0]
      exact s2.k lv.1 lv.2.2.1 lv.2.2.2
    · omega
  · rcases vr.2 with ⟨t2, -⟩ | ⟨t2, -⟩ | ⟨-, -, e, e3, e5, e2⟩
    · omega
    · omega
    · have n := hC.on i0 i1 (by omega)
      have v0 := (hC.1.1.2.2.2.2 (zI σ 14 4 + 1) (by omega) n).2.1.1
      refine rQ ρ' (by rw [e]; exact s1.k lv.1 lv.2.1) ?_ s3 (Or.inr (Or.inr (Or.inr ⟨vr.1, Or.inr ⟨by omega, e2, by rw [e3]; exact s5, Or.inr ⟨e5, s4⟩⟩⟩)))
      rw [e, e3, show nm (zA σ 12 1 (zI σ 14 4 + 1)) = [zA σ 12 1 (zI σ 14 4 + 1)] from if_pos v0]
      exact s2.k lv.1 lv.2.2.1 lv.2.2.2
  · exfalso
    rcases vr.2 with ⟨t, -⟩ | ⟨t, -⟩ | ⟨t, t', -⟩
    · exact vf.1 t
    · exact vf.2.1 t
    · exact vf.2.2 ⟨t, t'⟩
/-! X: word on both sides, in step -/
theorem t_words {h : Int → Int} {L : Int} {E M : Int → Int} {σ : ZS} {Q : Int → ZS → Prop} (hP : PS σ) (hC : CT h L E M σ) (ho : zI σ 14 5 = 1) (hz : 2 * zI σ 13 7 ≤ zA σ 12 2 (zI σ 14 4) + 2) (hQ : ∀ (x : Int) (τ : ZS), CSt σ τ x → TSt h L E M σ τ x (wpX11_data 15) → Q x τ) : wpX8_words σ Q := by
  have start : ∀ ρ : ZS, SY h L E σ (zI σ 14 4) ρ → RB σ ρ (M (zI σ 14 4)) [] → Fresh ρ → zI ρ 0 31 + 2 ≤ 2 * zI ρ 0 6 → HdB h L E M ρ σ ρ := fun ρ a b c d => ⟨a, b, c, PR.rf, d⟩
  have open15 : ∀ (ρ : ZS) (Qr : Int → ZS → Prop), wpX11_data_48 15 1 ρ Qr → wpX11_data 15 ρ Qr := by
    intro ρ Qr k
    unfold wpX11_data
    exact ⟨by decide, fun _ => k, fun q => absurd q (by decide)⟩
  unfold wpX8_words wpX8_words_2
  refine lfp1_ind (fun v _ => (481 - v).toNat) (fun v τ => PG σ τ ∧ (0 ≤ v ∧ v ≤ 481) ∧ v ≤ zI τ 14 4 ∧ (2 * zI τ 13 7 ≤ 2 * zI σ 13 7 + (zA σ 12 2 (zI τ 14 4) - zA σ 12 2 (zI σ 14 4)) ∧ zA σ 12 2 (zI σ 14 4) ≤ zA σ 12 2 (zI τ 14 4)) ∧ (∀ (ρ0 : ZS) (Qr : Int → ZS → Prop) (K : Int → ZS → Prop), (∀ (a : Int) (υ : ZS), wpbX11_data_48 K 15 a υ Qr → K a υ) → (∀ ρ' : ZS, HdB h L E M ρ0 τ ρ' → K 1 ρ') → ∀ ρ : ZS, HdB h L E M ρ0 σ ρ → K 1 ρ)) (fun K v τ hI ih => ?_) ⟨PG.rf hP, by decide, hP.2.2.1.1, by omega, fun ρ0 Qr K hK hG ρ hh => hG ρ hh⟩
  obtain ⟨tg, v0, va, tz, tr⟩ := hI
  have hz' := tg.1.1.1
  have hat := tg.1.2.2.1
  have e11 : ob τ 11 = ob σ 11 := tg.2.1 11 (by decide)
  have e12 : ob τ 12 = ob σ 12 := tg.2.1 12 (by decide)
  have hCt := hC.k e11 e12
  have w2 : zA τ 12 2 = zA σ 12 2 := ob_A e12 2
  have o1 : zI τ 14 5 = 1 := tg.2.2.trans ho
  have i0 := hat.1
  have i1 : zI τ 14 4 < zI τ 12 3 := by omega
  have tk := tg.1.tk
  have tp := tk.2.2.1
  rw [w2] at tp
  unfold wpbX8_words_2
  refine ⟨by omega, by omega, fun q => by omega, fun _ => x_opVal (by decide) tg.1 (fun υ ug ui vr => ⟨by decide, fun _ => ?_, fun q => absurd q (by decide)⟩) (fun vf υ ug => ⟨by decide, fun q => absurd rfl q, fun _ => hQ 0 υ ⟨by decide, tg.o5 ug, fun q => absurd q (by decide)⟩ (fun ρ Qr rS rB rF r31 h1 h0 => open15 ρ Qr ?_)⟩)⟩
  rotate_left
  · unfold wpX11_data_48
    intro P hPP
    refine tr ρ Qr P hPP (fun ρ' hm => hPP _ _ ?_) ρ (start ρ rS rB rF r31)
    obtain ⟨mS, mB, mF, mp, m31⟩ := hm
    unfold wpbX11_data_48
    refine ⟨by decide, fun q => absurd q (by decide), fun _ => ⟨by decide, fun _ => ?_, fun q => absurd q (by decide)⟩⟩
    exact r_value hCt i0 i1 mS mB mF (fun t => absurd t vf.1) (fun t => absurd t vf.2.1) (fun t t' => absurd ⟨t, t'⟩ vf.2.2) (fun _ ρ2 a c => ⟨by decide, fun q => absurd rfl q, fun _ => h0 rfl ρ2 a (mp.tr c)⟩)
  have ul := ug.lv (by decide)
  have hpl : zA σ 12 2 (zI τ 14 4) + 1 ≤ zA σ 12 2 (zI υ 14 4) ∧ zI τ 14 4 + 1 ≤ zI υ 14 4 := by
    rcases vr.2 with ⟨t, e, -⟩ | ⟨t, e, -⟩ | ⟨t, t', e, -⟩
    · have := (hCt.pl i0 i1 (by omega)).1
      rw [w2] at this; rw [e]; omega
    · have := (hCt.pl i0 i1 (by omega)).1
      rw [w2] at this; rw [e]; omega
    · have n := hCt.on i0 i1 (by omega)
      have p1 := (hCt.pl i0 i1 (by omega)).1
      have p2 := (hCt.pl (i := zI τ 14 4 + 1) (by omega) n (by omega)).1
      rw [w2] at p1 p2; rw [e]; omega
  have uo : zI υ 14 5 = 1 := ul.2.2.2.trans o1
  have us : zI υ 13 7 = zI τ 13 7 := ob_I ul.2.2.1 7
  refine x_addValue (by decide) ug.1 uo ui (by omega) (fun ω wp wk ws wy => ?_)
  have wg := (tg.o5 ug).ad wp wk
  have wa : zI ω 14 4 = zI υ 14 4 := wk.I (by decide) 4
  have w11 : ob ω 11 = ob υ 11 := wk 11 (by decide)
  have w12 : ob ω 12 = ob υ 12 := wk 12 (by decide)
  have hCw := (hCt.k ul.1 ul.2.1).k w11 w12
  have j0 := wp.2.2.1
  have ww2 : zA ω 12 2 = zA σ 12 2 := ((ob_A w12 2).trans (ob_A ul.2.1 2)).trans w2
  have elem : ∀ (ρ0 : ZS) (Qr : Int → ZS → Prop) (P : Int → ZS → Prop), (∀ (a : Int) (υ : ZS), wpbX11_data_48 P 15 a υ Qr → P a υ) → (∀ γ : ZS, SY h L E ω (zI ω 14 4) γ → RB ω γ (M (zI ω 14 4)) [] → Fresh γ → PR ρ0 γ → zI γ 0 31 + 3 ≤ 2 * zI γ 0 6 → wpX11_data_109 P 15 γ Qr) → ∀ ρ' : ZS, HdB h L E M ρ0 τ ρ' → P 1 ρ' := by
    intro ρ0 Qr P hPP k ρ' hm
    obtain ⟨mS, mB, mF, mp, m31⟩ := hm
    refine hPP _ _ ?_
    unfold wpbX11_data_48
    refine ⟨by decide, fun q => absurd q (by decide), fun _ => ⟨by decide, fun _ => ?_, fun q => absurd q (by decide)⟩⟩
    refine r_valOK (by decide) hCt tg.1 ug vr mS mB mF (fun ρ1 s1 b1 d1 r1 => ⟨by decide, fun _ => ?_, fun q => absurd q (by decide)⟩)
    obtain ⟨g1, p1, q31, -, q1⟩ := d1
    obtain ⟨q6, qU, qF⟩ := q1 rfl
    have e33 : zI ρ1 0 33 = 1 := by rw [b1.2.2.1]; exact uo
    have b1' : RBd υ (yS υ) ρ1 (M (zI υ 14 4)) (nm (zI υ 5 3) ++ []) := by rw [List.append_nil]; exact b1
    refine r_emitValD (g := 5) b1' vr.1 r1 qU e33 (by omega) (fun γ gB ge => k γ ?_ ?_ (ge.fresh qF) (mp.tr (p1.tr ge.2.1)) ?_)
    · rw [wa]; exact (ge.sy s1).k w11 w12
    · rw [wa]; exact gB.b w11 (wk.I (by decide) 5) wy
    · have := ge.s6
      have := ge.2.2.2.2
      omega
  refine c_take wp (by decide) (fun e44 p => ⟨by decide, fun _ => ih _ _ ⟨wg.on (by omega), by omega, ?_, ?_, fun ρ0 Qr P hPP hG ρ hh => tr ρ0 Qr P hPP (elem ρ0 Qr P hPP (fun γ gS gB gF gp g31 => ?_)) ρ hh⟩ (by omega), fun q => absurd q (by decide)⟩) (fun n44 => ⟨by decide, fun q => absurd rfl q, fun _ => hQ 1 ω ⟨by decide, wg, fun _ => ?_⟩ (fun ρ Qr rS rB rF r31 h1 h0 => open15 ρ Qr ?_)⟩)
  · rw [zI_s]; omega
  · have pw := (hCw.pl (i := zI ω 14 4) (by omega) (by omega) (by omega)).1
    rw [ww2] at pw
    show 2 * zI ω 13 7 ≤ 2 * zI σ 13 7 + (zA σ 12 2 (zI ω 14 4 + 1) - zA σ 12 2 (zI σ 14 4)) ∧ zA σ 12 2 (zI σ 14 4) ≤ zA σ 12 2 (zI ω 14 4 + 1)
    rw [wa] at pw ⊢
    omega
  · have T44 := (gS.2.2.2.2.sg (a := 44) (by unfold cS; omega)).mpr e44
    have l7 := gB.1.2.1.2.2.1
    unfold wpX11_data_109 wpX11_data_123
    refine ⟨by omega, fun q => absurd T44 q, fun _ => ⟨by decide, fun q => absurd q (by decide), fun _ => ?_⟩⟩
    refine r_next hCw (by omega) (by omega) gS gB (by omega) (fun δ dS dB dF df dp d1 d2 => hG δ ⟨?_, ?_, dF, gp.tr dp, ?_⟩)
    · rw [show zI (zsI ω 14 4 (zI ω 14 4 + 1)) 14 4 = zI ω 14 4 + 1 from zI_s]
      exact dS.k (ob_i (by decide)) (ob_i (by decide))
    · rw [show zI (zsI ω 14 4 (zI ω 14 4 + 1)) 14 4 = zI ω 14 4 + 1 from zI_s, hCw.m1 (by omega) (by omega) (by omega)]
      exact dB.k (ob_i (by decide)) (ob_i (by decide)) (zI_f (by decide))
    · have := df.1 31 (by decide)
      omega
  · rw [wa]
    omega
  · unfold wpX11_data_48
    intro P hPP
    refine tr ρ Qr P hPP (elem ρ Qr P hPP (fun γ gS gB gF gp g31 => ?_)) ρ (start ρ rS rB rF r31)
    have N44 : ¬ zI γ 0 7 = 44 := fun q => n44 ((gS.2.2.2.2.sg (a := 44) (by unfold cS; omega)).mp q)
    have l7 := gB.1.2.1.2.2.1
    unfold wpX11_data_109 wpX11_data_123
    refine ⟨by omega, fun _ => ⟨by decide, fun _ => hPP _ _ ?_, fun q => absurd rfl q⟩, fun q => absurd q N44⟩
    unfold wpbX11_data_48
    exact ⟨by decide, fun _ => h1 rfl γ gS gB gF gp (by omega), fun q => absurd rfl q⟩
/-! X: mov, as a whole -/
/-- the reference behind its second operand, the first being memory -/
def mC2 (ρ1 ρ3 : ZS) (Q : Int → ZS → Prop) : Prop := (-2147483648 ≤ (zI ρ3 0 37) ∧ (zI ρ3 0 37) ≤ 2147483647) ∧ (¬ (zI ρ3 0 37) = 0 → (¬ (zI ρ3 0 37) = 1 → wpX11_mov_149 (zI ρ1 0 31) (zI ρ3 0 37) (zI ρ3 0 38) (zI ρ3 0 39) 199 (zsI (zsI (zsI (zsI (zsI ρ3 0 37 2) 0 38 (zI ρ1 0 38)) 0 39 (zI ρ1 0 39)) 0 41 (zI ρ1 0 41)) 0 42 (zI ρ1 0 42)) Q) ∧ ((zI ρ3 0 37) = 1 → wpX11_mov_149 (zI ρ1 0 31) (zI ρ3 0 37) (zI ρ3 0 38) (zI ρ3 0 39) 140 (zsI (zsI (zsI (zsI (zsI ρ3 0 37 2) 0 38 (zI ρ1 0 38)) 0 39 (zI ρ1 0 39)) 0 41 (zI ρ1 0 41)) 0 42 (zI ρ1 0 42)) Q)) ∧ ((zI ρ3 0 37) = 0 → wpX11_mov_149 (zI ρ1 0 31) (zI ρ3 0 37) (zI ρ3 0 38) (zI ρ3 0 39) 137 (zsI (zsI (zsI (zsI (zsI ρ3 0 37 2) 0 38 (zI ρ1 0 38)) 0 39 (zI ρ1 0 39)) 0 41 (zI ρ1 0 41)) 0 42 (zI ρ1 0 42)) Q)
/-- the same, the first being a register -/
def mCT (ρ1 ρ3 : ZS) (Q : Int → ZS → Prop) : Prop := (-2147483648 ≤ zI ρ1 0 37 ∧ zI ρ1 0 37 ≤ 2147483647) ∧ (¬ zI ρ1 0 37 = 1 → (-2147483648 ≤ (zI ρ3 0 37) ∧ (zI ρ3 0 37) ≤ 2147483647) ∧ (¬ (zI ρ3 0 37) = 1 → ((zI ρ3 0 37) ≤ 2 → wpX11_octet 139 ρ3 (fun σ11 => wpX11_emitForm (zI ρ1 0 38) σ11 (fun σ13 => (0 ≤ (1 : Int) ∧ (1 : Int) ≤ 1) ∧ Q 1 σ13))) ∧ (¬ (zI ρ3 0 37) ≤ 2 → wpX11_octet (184 + zI ρ1 0 38) ρ3 (fun σ15 => wpX11_emitValue σ15 (fun σ17 => (0 ≤ (1 : Int) ∧ (1 : Int) ≤ 1) ∧ Q 1 σ17)))) ∧ ((zI ρ3 0 37) = 1 → wpX11_octet 140 ρ3 (fun σ19 => wpX11_octet ((192 + (8 * (zI σ19 0 38))) + zI ρ1 0 38) σ19 (fun σ21 => (0 ≤ (1 : Int) ∧ (1 : Int) ≤ 1) ∧ Q 1 σ21)))) ∧ (zI ρ1 0 37 = 1 → wpX11_octet 142 ρ3 (fun σ23 => wpX11_emitForm (zI ρ1 0 38) σ23 (fun σ25 => (0 ≤ (1 : Int) ∧ (1 : Int) ≤ 1) ∧ Q 1 σ25)))
theorem t_mov {h : Int → Int} {L : Int} {E M : Int → Int} {σ : ZS} {Q : Int → ZS → Prop} (hP : PS σ) (hC : CT h L E M σ) (ho : zI σ 14 5 = 1) (hz : zI σ 13 7 ≤ 242) (hQ : ∀ (x : Int) (τ : ZS), CSt σ τ x → TSt h L E M σ τ x wpX11_mov → Q x τ) : wpX8_mov σ Q := by
  have ab1 : AB 11 13 := by unfold AB; decide
  unfold wpX8_mov wpX8_mov_22
  refine t_operand (b := 13) (by decide) hP hC ab1 (fun τ og oi ok tr => ⟨by decide, fun q => absurd q (by decide), fun _ => ?_⟩) (fun τ og tr => ⟨by decide, fun _ => hQ 0 τ ⟨by decide, (PG.rf hP).o5 og, fun q => absurd q (by decide)⟩ (fun ρ Qr rS rB rF r31 h1 h0 => ?_), fun q => absurd rfl q⟩)
  rotate_left
  · unfold wpX11_mov
    exact tr ρ [] _ rS rB rF (fun ρ' g p => ⟨by decide, fun q => absurd rfl q, fun _ => h0 rfl ρ' g p⟩)
  have pg := (PG.rf hP).o5 og
  have lv := og.lv (by decide)
  have hC1 := hC.k lv.1 lv.2.1
  have i0 := og.1.2.2.1.1
  have i1 : zI τ 14 4 < zI τ 12 3 := by have := og.1.2.2.1; omega
  have s13 : zI τ 13 7 = zI σ 13 7 := ob_I lv.2.2.1 7
  have w2 : zA τ 12 2 = zA σ 12 2 := ob_A lv.2.1 2
  have kk : ((zI τ 5 0 = 1 ∨ zI τ 5 0 = 8) ∧ zA σ 12 2 (zI σ 14 4) + 2 ≤ zA σ 12 2 (zI τ 14 4)) ∨ (zI τ 5 0 = 2 ∧ zA σ 12 2 (zI σ 14 4) + 3 ≤ zA σ 12 2 (zI τ 14 4)) := by
    rcases ok with ⟨q, -, q'⟩ | ⟨q, -, q'⟩ | ⟨q, -, q'⟩ | ⟨q, q', -⟩
    · exact Or.inl ⟨Or.inl q, q'⟩
    · exact Or.inl ⟨Or.inr q, q'⟩
    · exact Or.inr ⟨q, q'⟩
    · exact absurd (by decide) q'
  have fst : ∀ ρ1 : ZS, OR τ 5 ρ1 → (zI τ 5 0 = 1 ∧ zI ρ1 0 37 = 0 ∧ zI ρ1 0 38 = zI τ 5 1 ∧ 0 ≤ zI τ 5 1 ∧ zI τ 5 1 < 8 ∧ zI τ 5 3 = -1) ∨ (zI τ 5 0 = 8 ∧ zI ρ1 0 37 = 1 ∧ zI ρ1 0 38 = zI τ 5 1 ∧ 0 ≤ zI τ 5 1 ∧ zI τ 5 1 < 4 ∧ zI τ 5 3 = -1) ∨ (zI τ 5 0 = 2 ∧ zI ρ1 0 37 = 2) := by
    intro ρ1 r
    rcases r with a | a | ⟨a, b, -⟩ | ⟨a, -⟩
    · exact Or.inl a
    · exact Or.inr (Or.inl a)
    · exact Or.inr (Or.inr ⟨a, b.1⟩)
    · omega
  -- a comma that is missing
  have bad : zA τ 12 0 (zI τ 14 4) ≠ 44 → Q 0 τ := by
    intro ne
    refine hQ 0 τ ⟨by decide, pg, fun q => absurd q (by decide)⟩ (fun ρ Qr rS rB rF r31 h1 h0 => ?_)
    unfold wpX11_mov wpX11_mov_74
    refine tr ρ [] _ rS rB rF (fun ρ1 s1 b1 d1 r1 => ⟨by decide, fun _ => ⟨by have := fst ρ1 r1; omega, fun _ => ?_, fun _ => ?_⟩, fun q => absurd q (by decide)⟩)
    · exact r_take hC1 i0 i1 s1 b1 (by unfold cS; omega) (fun t => absurd t ne) (fun _ => ⟨by decide, fun _ => h0 rfl _ (GG_34 b1.1) (d1.2.1.tr PR_fault), fun q => absurd rfl q⟩)
    · unfold wpX11_movTo wpX11_movTo_28
      exact r_take hC1 i0 i1 s1 b1 (by unfold cS; omega) (fun t => absurd t ne) (fun _ => ⟨by decide, fun _ => ⟨by decide, h0 rfl _ (GG_34 b1.1) (d1.2.1.tr PR_fault)⟩, fun q => absurd rfl q⟩)
  refine c_take og.1 (by decide) (fun e44 p2 => ⟨by decide, fun _ => ?_, fun q => absurd q (by decide)⟩) (fun ne => ⟨by decide, fun q => absurd rfl q, fun _ => bad ne⟩)
  have pg2 := pg.on (show zA τ 12 0 (zI τ 14 4) ≠ 0 by omega)
  have q5 : ob (zsI τ 14 4 (zI τ 14 4 + 1)) 5 = ob τ 5 := ob_i (by decide)
  have q11 : ob (zsI τ 14 4 (zI τ 14 4 + 1)) 11 = ob τ 11 := ob_i (by decide)
  have q12 : ob (zsI τ 14 4 (zI τ 14 4 + 1)) 12 = ob τ 12 := ob_i (by decide)
  have q13 : ob (zsI τ 14 4 (zI τ 14 4 + 1)) 13 = ob τ 13 := ob_i (by decide)
  have qa : zI (zsI τ 14 4 (zI τ 14 4 + 1)) 14 4 = zI τ 14 4 + 1 := zI_s
  have qo : zI (zsI τ 14 4 (zI τ 14 4 + 1)) 14 5 = zI τ 14 5 := zI_f (by decide)
  have hC2 := hC1.k q11 q12
  have pl1 := (hC1.pl i0 i1 (show zA τ 12 0 (zI τ 14 4) ≠ 0 by omega)).1
  rw [w2] at pl1
  have r5 := oi.1.1
  -- both operands stand, or the second fails
  have f59 : ∀ (v s : Int) (C : ZS → ZS → (Int → ZS → Prop) → Prop), AB v s → (zI τ 5 0 = 8 → zand v 4 = 0 ∧ zand v 8 = 0 ∧ zand v 16 = 0) → (zI τ 5 0 = 2 → zand v 2 = 0) → (zI τ 5 0 = 2 → C = mC2) → (zI τ 5 0 ≠ 2 → C = mCT) →
      (∀ (ρ : ZS) (Qr : Int → ZS → Prop), SY h L E σ (zI σ 14 4) ρ → RB σ ρ (M (zI σ 14 4)) [] → Fresh ρ → (∀ ρ1 ρ2 : ZS, OR τ 5 ρ1 → Opd ρ 1 ρ1 → PR ρ1 ρ2 → zI ρ2 0 31 = zI ρ1 0 31 → zI ρ1 0 6 + 1 ≤ zI ρ2 0 6 → SY h L E (zsI τ 14 4 (zI τ 14 4 + 1)) (zI (zsI τ 14 4 (zI τ 14 4 + 1)) 14 4) ρ2 → RB (zsI τ 14 4 (zI τ 14 4 + 1)) ρ2 (M (zI (zsI τ 14 4 (zI τ 14 4 + 1)) 14 4)) (nm (zI τ 5 3)) → Fresh ρ2 → ∀ K : Int → ZS → Prop, (∀ ρ3 : ZS, C ρ1 ρ3 Qr → K 1 ρ3) → (∀ ρ3 : ZS, Qr 0 ρ3 → K 0 ρ3) → wpX11_operand s ρ2 K) → wpX11_mov ρ Qr) → wpX8_mov_59 v (zsI τ 14 4 (zI τ 14 4 + 1)) Q := by
    intro v s C ab hv8 hv2 c2 cT road
    unfold wpX8_mov_59 wpX8_mov_203 wpX8_mov_273
    refine t_operand (b := s) (by decide) pg2.1 hC2 ab (fun υ ug ui uk ut => ⟨by decide, fun _ => ?_, fun q => absurd q (by decide)⟩) (fun υ ug ut => ⟨by decide, fun q => absurd rfl q, fun _ => hQ 0 υ ⟨by decide, pg2.o6 ug, fun q => absurd q (by decide)⟩ (fun ρ Qr rS rB rF r31 h1 h0 => road ρ Qr rS rB rF (fun ρ1 ρ2 r1 d1 p12 e31 e6 s2 b2 f2 K k1 k0 => ?_))⟩)
    rotate_left
    · exact ut ρ2 _ _ s2 b2 f2 (fun ρ' g p => k0 ρ' (h0 rfl ρ' g (d1.2.1.tr (p12.tr p))))
    have ul := ug.lv (by decide)
    have pg3 := pg2.o6 ug
    have uo : zI υ 14 5 = 1 := pg3.2.2.trans ho
    have u5 : ob υ 5 = ob τ 5 := (ug.2.1 5 (by decide)).trans q5
    have u5i : OPI υ 5 := oi.k (ul.1.trans q11) u5
    have us : zI υ 13 7 = zI σ 13 7 := by rw [ob_I ul.2.2.1 7, ob_I q13 7, s13]
    have k6 : ((zI υ 6 0 = 1 ∨ (zI υ 6 0 = 8 ∧ zI τ 5 0 ≠ 8) ∨ (zI υ 6 0 = 4 ∧ zI τ 5 0 ≠ 8)) ∧ zA σ 12 2 (zI τ 14 4) + 2 ≤ zA σ 12 2 (zI υ 14 4)) ∨ (zI υ 6 0 = 2 ∧ zI τ 5 0 ≠ 2 ∧ zA σ 12 2 (zI τ 14 4) + 3 ≤ zA σ 12 2 (zI υ 14 4)) := by
      have e2 : zA (zsI τ 14 4 (zI τ 14 4 + 1)) 12 2 = zA σ 12 2 := (ob_A q12 2).trans w2
      unfold OKo at uk
      rw [e2, qa] at uk
      rcases uk with ⟨q, -, q'⟩ | ⟨q, q', q''⟩ | ⟨q, q', q''⟩ | ⟨q, q'', q'⟩
      · exact Or.inl ⟨Or.inl q, by omega⟩
      · refine Or.inl ⟨Or.inr (Or.inl ⟨q, fun z8 => ?_⟩), by omega⟩
        have := hv8 z8
        exact q'.elim (fun z => z this.2.1) (fun z => z this.2.2)
      · exact Or.inr ⟨q, fun z2 => q' (hv2 z2), by omega⟩
      · exact Or.inl ⟨Or.inr (Or.inr ⟨q, fun z8 => q'' (hv8 z8).1⟩), by omega⟩
    have r6 := ui.1.1
    have t0 : zI υ 5 0 = zI τ 5 0 := ob_I u5 0
    have t1 : zI υ 5 1 = zI τ 5 1 := ob_I u5 1
    -- the end, seen from both sides
    have fin : ∀ ω : ZS, PS ω → kp [13] υ ω → 2 * zI ω 13 7 ≤ 2 * zI σ 13 7 + (zA σ 12 2 (zI υ 14 4) - zA σ 12 2 (zI σ 14 4)) + 3 → EmC h L E M τ υ ω C → Q 1 ω := by
      intro ω wp wk wz em
      refine hQ 1 ω ⟨by decide, pg3.ad wp wk, fun _ => by rw [wk.I (by decide) 4]; exact ⟨wz, by omega⟩⟩ (fun ρ Qr rS rB rF r31 h1 h0 => road ρ Qr rS rB rF (fun ρ1 ρ2 r1 d1 p12 e31 e6 s2 b2 f2 K k1 k0 => ?_))
      obtain ⟨g1, p1, q31, -, q1⟩ := d1
      obtain ⟨q6, qU, qF⟩ := q1 rfl
      refine ut ρ2 _ _ s2 b2 f2 (fun ρ3 s3 b3 d3 r3 => k1 ρ3 ?_)
      obtain ⟨g3, p3, q331, -, q3⟩ := d3
      obtain ⟨q36, q3U, q3F⟩ := q3 rfl
      have e33 : zI ρ3 0 33 = 1 := by rw [b3.2.2.1]; exact uo
      refine em ρ1 ρ3 Qr g1 r1 qU (p12.tr p3) (by omega) r3 q3U e33 (by omega) b3 (fun ρ' b' pr' e31' kf => h1 rfl ρ' ?_ ?_ (kf.fresh q3F) (p1.tr (p12.tr (p3.tr pr'))) (by have := kf.2.2; omega))
      · rw [wk.I (by decide) 4]
        exact (kf.sy s3).k (wk 11 (by decide)) (wk 12 (by decide))
      · rw [wk.I (by decide) 4]
        exact b'.b (wk 11 (by decide)) (wk.I (by decide) 5) rfl
    -- the left operand is memory: the reference puts it back
    have b149 : ∀ (ω ρ1 ρ3 : ZS) (Qr : Int → ZS → Prop) (a k : Int), zI τ 5 0 = 2 → GG ρ1 → OR τ 5 ρ1 → OpU ρ1 → PR ρ1 ρ3 → zI ρ3 0 31 = zI ρ1 0 31 → OR υ 6 ρ3 → OpU ρ3 → zI ρ3 0 33 = 1 → zI ρ3 0 31 + 4 ≤ 2 * zI ρ3 0 6 → RBd υ (yS υ) ρ3 (M (zI υ 14 4)) (nm (zI τ 5 3) ++ nm (zI υ 6 3)) → (0 ≤ a ∧ a ≤ 255) → (0 ≤ k ∧ k < 8) → ((2 ≤ zI ρ3 0 37 ∧ k = 0 ∧ zI υ 6 0 = 4) ∨ (zI ρ3 0 37 < 2 ∧ k = zI ρ3 0 38 ∧ zI υ 6 0 ≠ 4 ∧ zI υ 6 3 = -1)) → (zI υ 6 0 = 4 → yS ω = yV (yMt (yP (yS υ) 0 a 0) υ 5 k) (zI υ 6 3) (zI υ 6 2) (zI υ 6 5)) → (zI υ 6 0 ≠ 4 → yS ω = yMt (yP (yS υ) 0 a 0) υ 5 k) → (∀ ρ' : ZS, RBd υ (yS ω) ρ' (M (zI υ 14 4)) [] → PR ρ3 ρ' → zI ρ' 0 31 ≤ zI ρ3 0 31 + 4 → KpF ρ3 ρ' → Qr 1 ρ') → wpX11_mov_149 (zI ρ1 0 31) (zI ρ3 0 37) (zI ρ3 0 38) (zI ρ3 0 39) a (zsI (zsI (zsI (zsI (zsI ρ3 0 37 2) 0 38 (zI ρ1 0 38)) 0 39 (zI ρ1 0 39)) 0 41 (zI ρ1 0 41)) 0 42 (zI ρ1 0 42)) Qr := by
      intro ω ρ1 ρ3 Qr a k k2 g1 r1 u1 p13 e131 r3 u3 e33 e31 b3 ha hk hkk y4 yn kq
      have x37 : zI ρ1 0 37 = 2 := by
        have := fst ρ1 r1
        omega
      have l38 := g1.2.1.2.2.2.2.2.2.2.2.2.2.2.2.2.2.1
      have l39 := g1.2.1.2.2.2.2.2.2.2.2.2.2.2.2.2.2.2.1
      have l41 := g1.2.1.2.2.2.2.2.2.2.2.2.2.2.2.2.2.2.2.1
      have l42 := g1.2.1.2.2.2.2.2.2.2.2.2.2.2.2.2.2.2.2.2.1
      have m37 := b3.1.2.1.2.2.2.2.2.2.2.2.2.2.2.2.2.1
      have m38 := b3.1.2.1.2.2.2.2.2.2.2.2.2.2.2.2.2.2.1
      have m39 := b3.1.2.1.2.2.2.2.2.2.2.2.2.2.2.2.2.2.2.1
      have m31 := b3.1.2.1.2.2.2.2.2.2.2.2.1
      have b4 : RBd υ (yS υ) (zsI (zsI (zsI (zsI (zsI ρ3 0 37 2) 0 38 (zI ρ1 0 38)) 0 39 (zI ρ1 0 39)) 0 41 (zI ρ1 0 41)) 0 42 (zI ρ1 0 42)) (M (zI υ 14 4)) (nm (zI υ 5 3) ++ nm (zI υ 6 3)) := by
        rw [ob_I u5 3]
        exact ⟨GG_ops b3.1 (by decide) l38 l39 l41 l42, b3.2⟩
      have kf0 : KpF ρ3 (zsI (zsI (zsI (zsI (zsI ρ3 0 37 2) 0 38 (zI ρ1 0 38)) 0 39 (zI ρ1 0 39)) 0 41 (zI ρ1 0 41)) 0 42 (zI ρ1 0 42)) := (KpF.op (by decide)).tr ((KpF.op (by decide)).tr ((KpF.op (by decide)).tr ((KpF.op (by decide)).tr (KpF.op (by decide)))))
      unfold wpX11_mov_149
      refine r_octS b4 e33 (show zI ρ3 0 31 + 1 ≤ 2 * zI ρ3 0 6 + 8 by omega) (by omega) (fun ρ5 b5 e5 x5 => ?_)
      have x5' : zI ρ5 0 31 = zI ρ3 0 31 + 1 := x5
      have j6 : zI ρ5 0 6 = zI ρ3 0 6 := e5.s6
      have fm : wpX11_mov_165 (zI ρ1 0 31) (zI ρ3 0 37) (zI ρ3 0 38) (zI ρ3 0 39) k ρ5 Qr := by
        unfold wpX11_mov_165
        refine r_emitForm (g := 5) b5 (e5.or (r1.k u5 x37.symm rfl rfl rfl rfl)) u5i.1 hk (by omega) (e5.ops (u1.pr (p13.tr PR_ops) x37.symm rfl)) (e5.s33 e33) (by omega) (fun ρ6 b6 e6 => ?_)
        have i6 := e6.s6
        have i31 := e6.2.2.2.2
        have i31' := e6.2.2.2.1
        have z6 := b6.1.2.1.2.1
        have z2 := b6.1.2.1.1
        have kf7 : KpF ρ6 (zsI (zsI (zsI ρ6 0 37 (zI ρ3 0 37)) 0 38 (zI ρ3 0 38)) 0 39 (zI ρ3 0 39)) := (KpF.op (by decide)).tr ((KpF.op (by decide)).tr (KpF.op (by decide)))
        have p67 : PR ρ6 (zsI (zsI (zsI ρ6 0 37 (zI ρ3 0 37)) 0 38 (zI ρ3 0 38)) 0 39 (zI ρ3 0 39)) := (PR_op (by decide)).tr ((PR_op (by decide)).tr (PR_op (by decide)))
        have g7 : GG (zsI (zsI (zsI ρ6 0 37 (zI ρ3 0 37)) 0 38 (zI ρ3 0 38)) 0 39 (zI ρ3 0 39)) := GG_39 (GG_38 (GG_37 b6.1 m37) m38) m39
        have en : ∀ ρ8 : ZS, zI ρ6 0 31 ≤ zI ρ8 0 31 → zI ρ8 0 31 ≤ 20000000 → Qr 1 ρ8 → wpX11_mov_196 (zI ρ1 0 31) ρ8 Qr := by
          intro ρ8 a b c
          unfold wpX11_mov_196 wpX11_mov_209
          exact ⟨by omega, by omega, fun q => by omega, fun _ => ⟨by decide, c⟩⟩
        refine ⟨by omega, fun le => ?_, fun gt => ?_⟩
        · rcases hkk with ⟨q1, q2, q3⟩ | ⟨q1, q2, q3, q4⟩
          · exfalso
            rcases r3 with ⟨q, -⟩ | ⟨q, -⟩ | ⟨q, -⟩ | ⟨-, ⟨-, q, -⟩ | ⟨-, -, -, ⟨-, q⟩ | ⟨-, q⟩⟩⟩ <;> omega
          · refine en _ (show zI ρ6 0 31 ≤ zI ρ6 0 31 by omega) (show zI ρ6 0 31 ≤ 20000000 by omega) (kq _ ?_ (PR_ops.tr (e5.2.1.tr (e6.2.1.tr p67))) (show zI ρ6 0 31 ≤ zI ρ3 0 31 + 4 by omega) (kf0.tr (e5.kf.tr (e6.kf.tr kf7))))
            rw [q4] at b6
            rw [yn q3]
            exact ⟨g7, b6.2⟩
        · rcases hkk with ⟨q1, q2, q3⟩ | ⟨q1, q2, q3, q4⟩
          · have b7 : RBd υ (yMt (yP (yS υ) 0 a 0) υ 5 k) (zsI (zsI (zsI ρ6 0 37 (zI ρ3 0 37)) 0 38 (zI ρ3 0 38)) 0 39 (zI ρ3 0 39)) (M (zI υ 14 4)) (nm (zI υ 6 3) ++ []) := by
              rw [List.append_nil]
              exact ⟨g7, b6.2⟩
            have r7 : OR υ 6 (zsI (zsI (zsI ρ6 0 37 (zI ρ3 0 37)) 0 38 (zI ρ3 0 38)) 0 39 (zI ρ3 0 39)) := by
              rcases r3 with ⟨q, -⟩ | ⟨q, -⟩ | ⟨q, -⟩ | q
              · omega
              · omega
              · omega
              · exact Or.inr (Or.inr (Or.inr q))
            refine r_emitValD (g := 6) b7 q3 r7 (u3.pr (PR_ops.tr (e5.2.1.tr (e6.2.1.tr p67))) rfl rfl) (e6.s33 (e5.s33 e33)) (show zI ρ6 0 31 + 1 ≤ 2 * zI ρ6 0 6 + 8 by omega) (fun ρ8 b8 e8 => ?_)
            have v31 : zI ρ8 0 31 ≤ zI ρ6 0 31 + 1 := e8.2.2.2.2
            have v31' : zI ρ6 0 31 ≤ zI ρ8 0 31 := e8.2.2.2.1
            refine en ρ8 v31' (by omega) (kq ρ8 ?_ (PR_ops.tr (e5.2.1.tr (e6.2.1.tr (p67.tr e8.2.1)))) (by omega) (kf0.tr (e5.kf.tr (e6.kf.tr (kf7.tr e8.kf)))))
            rw [y4 q3]
            exact b8
          · omega
      refine ⟨by omega, fun q => ?_, fun q => ?_⟩
      · rcases hkk with ⟨q1, q2, q3⟩ | ⟨q1, q2, q3, q4⟩
        · rw [q2] at fm; exact fm
        · omega
      · rcases hkk with ⟨q1, q2, q3⟩ | ⟨q1, q2, q3, q4⟩
        · omega
        · rw [q2] at fm; exact fm
    -- what the second operand is
    have snd : ∀ ρ3 : ZS, OR υ 6 ρ3 → (zI υ 6 0 = 1 ∧ zI ρ3 0 37 = 0 ∧ zI ρ3 0 38 = zI υ 6 1 ∧ 0 ≤ zI υ 6 1 ∧ zI υ 6 1 < 8 ∧ zI υ 6 3 = -1) ∨ (zI υ 6 0 = 8 ∧ zI ρ3 0 37 = 1 ∧ zI ρ3 0 38 = zI υ 6 1 ∧ 0 ≤ zI υ 6 1 ∧ zI υ 6 1 < 4 ∧ zI υ 6 3 = -1) ∨ (zI υ 6 0 = 2 ∧ zI ρ3 0 37 = 2) ∨ (zI υ 6 0 = 4 ∧ 3 ≤ zI ρ3 0 37 ∧ zI ρ3 0 37 ≤ 5) := by
      intro ρ3 r
      rcases r with q | q | ⟨q, q', -⟩ | ⟨q, ⟨-, q', -⟩ | ⟨-, -, -, ⟨-, q'⟩ | ⟨-, q'⟩⟩⟩
      · exact Or.inl q
      · exact Or.inr (Or.inl q)
      · exact Or.inr (Or.inr (Or.inl ⟨q, q'.1⟩))
      · exact Or.inr (Or.inr (Or.inr ⟨q, by omega, by omega⟩))
      · exact Or.inr (Or.inr (Or.inr ⟨q, by omega, by omega⟩))
      · exact Or.inr (Or.inr (Or.inr ⟨q, by omega, by omega⟩))
    -- a form whose memory is the second operand
    have form6 : ∀ (ω ρ1 ρ3 : ZS) (Qr : Int → ZS → Prop) (a : Int) (K : ZS → Prop), zI τ 5 0 ≠ 2 → (zI υ 6 0 = 1 ∨ zI υ 6 0 = 2) → OR τ 5 ρ1 → OR υ 6 ρ3 → OpU ρ3 → zI ρ3 0 33 = 1 → zI ρ3 0 31 + 4 ≤ 2 * zI ρ3 0 6 → RBd υ (yS υ) ρ3 (M (zI υ 14 4)) (nm (zI τ 5 3) ++ nm (zI υ 6 3)) → (0 ≤ a ∧ a ≤ 255) → yS ω = yMt (yP (yS υ) 0 a 0) υ 6 (zI υ 5 1) → (∀ ρ' : ZS, RBd υ (yS ω) ρ' (M (zI υ 14 4)) [] → PR ρ3 ρ' → zI ρ' 0 31 ≤ zI ρ3 0 31 + 4 → KpF ρ3 ρ' → Qr 1 ρ') → wpX11_octet a ρ3 (fun σ11 => wpX11_emitForm (zI ρ1 0 38) σ11 (fun σ13 => (0 ≤ (1 : Int) ∧ (1 : Int) ≤ 1) ∧ Qr 1 σ13)) := by
      intro ω ρ1 ρ3 Qr a K n2 z6 r1 r3 u3 e33 e31 b3 ha wy kq
      have x := fst ρ1 r1
      have x5 : zI τ 5 3 = -1 := by omega
      have b3' : RBd υ (yS υ) ρ3 (M (zI υ 14 4)) (nm (zI υ 6 3) ++ []) := by
        rw [x5] at b3
        rw [List.append_nil]; exact b3
      refine r_octD b3' e33 (by omega) (by omega) (fun ρ5 b5 e5 => ?_)
      have j6 := e5.s6
      have j31 := e5.2.2.2.2
      refine r_emitForm (g := 6) b5 (e5.or r3) ui.1 (by omega) z6 (e5.ops u3) (e5.s33 e33) (by omega) (fun ρ6 b6 e6 => ⟨by decide, kq ρ6 ?_ (e5.2.1.tr e6.2.1) (by have := e6.2.2.2.2; omega) (e5.kf.tr e6.kf)⟩)
      rw [wy, t1, show zI τ 5 1 = zI ρ1 0 38 by omega]
      exact b6
    refine ⟨by omega, fun n8 => ⟨by omega, fun m8 => ⟨fun m4 => ⟨fun n1 => ?_, fun y1 => ?_⟩, fun m4 => ⟨fun n1 => ?_, fun y1 => ?_⟩⟩, fun m8 => ?_⟩, fun y8 => ?_⟩
    · -- memory, register
      have y2 : zI τ 5 0 = 2 := by omega
      have z6 : zI υ 6 0 = 1 := by omega
      refine x_addWithM (by decide) ug.1 uo u5i (by omega) (fun ω wp wk wz wz' wy => fin ω wp wk (by rw [if_neg n1] at wz'; omega) ?_)
      rw [c2 y2]
      intro ρ1 ρ3 Qr g1 r1 u1 p13 e131 r3 u3 e33 e31 b3 kq
      have s := snd ρ3 r3
      unfold mC2
      exact ⟨by omega, fun q => by omega, fun _ => b149 ω ρ1 ρ3 Qr 137 (zI υ 6 1) y2 g1 r1 u1 p13 e131 r3 u3 e33 e31 b3 (by decide) (by omega) (Or.inr ⟨by omega, by omega, by omega, by omega⟩) (fun q => by omega) (fun _ => wy) kq⟩
    · -- register, register or memory
      have y1' : zI τ 5 0 = 1 := by omega
      have z6 : zI υ 6 0 = 1 ∨ zI υ 6 0 = 2 := by omega
      refine x_addWithM (by decide) ug.1 uo ui (by omega) (fun ω wp wk wz wz' wy => fin ω wp wk (by split at wz' <;> omega) ?_)
      rw [cT (by omega)]
      intro ρ1 ρ3 Qr g1 r1 u1 p13 e131 r3 u3 e33 e31 b3 kq
      have s := snd ρ3 r3
      have f := fst ρ1 r1
      unfold mCT
      exact ⟨by omega, fun _ => ⟨by omega, fun _ => ⟨fun _ => form6 ω ρ1 ρ3 Qr 139 (fun _ => True) (by omega) z6 r1 r3 u3 e33 e31 b3 (by decide) wy kq, fun q => by omega⟩, fun q => by omega⟩, fun q => by omega⟩
    · -- memory, a value
      have y2 : zI τ 5 0 = 2 := by omega
      refine x_addWithM (by decide) ug.1 uo u5i (by omega) (fun ω wp wk wz wz' wy => ?_)
      rw [if_neg n1] at wz'
      have w6 : ob ω 6 = ob υ 6 := wk 6 (by decide)
      refine x_addValue (by decide) wp ((wk.I (by decide) 5).trans uo) (ui.k (wk 11 (by decide)) w6) (by omega) (fun ω2 wp2 wk2 wz2 wy2 => fin ω2 wp2 (wk.tr wk2) (by omega) ?_)
      rw [c2 y2]
      intro ρ1 ρ3 Qr g1 r1 u1 p13 e131 r3 u3 e33 e31 b3 kq
      have s := snd ρ3 r3
      unfold mC2
      rw [wy, ob_I w6 2, ob_I w6 3, ob_I w6 5] at wy2
      exact ⟨by omega, fun _ => ⟨fun _ => b149 ω2 ρ1 ρ3 Qr 199 0 y2 g1 r1 u1 p13 e131 r3 u3 e33 e31 b3 (by decide) (by decide) (Or.inl ⟨by omega, rfl, m4⟩) (fun _ => wy2) (fun q => absurd m4 q) kq, fun q => by omega⟩, fun q => by omega⟩
    · -- register, a value
      have y1' : zI τ 5 0 = 1 := by omega
      refine x_addByte ug.1 uo (by omega) (fun ω wp wk wz wy => ?_)
      have w6 : ob ω 6 = ob υ 6 := wk 6 (by decide)
      refine x_addValue (by decide) wp ((wk.I (by decide) 5).trans uo) (ui.k (wk 11 (by decide)) w6) (by omega) (fun ω2 wp2 wk2 wz2 wy2 => fin ω2 wp2 (wk.tr wk2) (by omega) ?_)
      rw [cT (by omega)]
      intro ρ1 ρ3 Qr g1 r1 u1 p13 e131 r3 u3 e33 e31 b3 kq
      have s := snd ρ3 r3
      have f := fst ρ1 r1
      unfold mCT
      rw [wy, ob_I w6 2, ob_I w6 3, ob_I w6 5] at wy2
      refine ⟨by omega, fun _ => ⟨by omega, fun _ => ⟨fun q => by omega, fun _ => ?_⟩, fun q => by omega⟩, fun q => by omega⟩
      have b3' : RBd υ (yS υ) ρ3 (M (zI υ 14 4)) (nm (zI υ 6 3) ++ []) := by
        rw [show zI τ 5 3 = -1 by omega] at b3
        rw [List.append_nil]; exact b3
      refine r_octD b3' e33 (by omega) (by omega) (fun ρ5 b5 e5 => ?_)
      have j6 := e5.s6
      have j31 := e5.2.2.2.2
      refine r_emitValD (g := 6) b5 m4 (e5.or r3) (e5.ops u3) (e5.s33 e33) (by omega) (fun ρ8 b8 e8 => ⟨by decide, kq ρ8 ?_ (e5.2.1.tr e8.2.1) (by have := e8.2.2.2.2; omega) (e5.kf.tr e8.kf)⟩)
      rw [wy2, show (184 + zI υ 5 1) % 256 = 184 + zI ρ1 0 38 by omega]
      exact b8
    · -- a segment register from which it is moved
      refine x_addWithM (by decide) ug.1 uo u5i (by omega) (fun ω wp wk wz wz' wy => fin ω wp wk (by split at wz' <;> omega) ?_)
      by_cases y2 : zI τ 5 0 = 2
      · rw [c2 y2]
        intro ρ1 ρ3 Qr g1 r1 u1 p13 e131 r3 u3 e33 e31 b3 kq
        have s := snd ρ3 r3
        unfold mC2
        exact ⟨by omega, fun _ => ⟨fun q => by omega, fun _ => b149 ω ρ1 ρ3 Qr 140 (zI υ 6 1) y2 g1 r1 u1 p13 e131 r3 u3 e33 e31 b3 (by decide) (by omega) (Or.inr ⟨by omega, by omega, by omega, by omega⟩) (fun q => by omega) (fun _ => wy) kq⟩, fun q => by omega⟩
      · rw [cT y2]
        intro ρ1 ρ3 Qr g1 r1 u1 p13 e131 r3 u3 e33 e31 b3 kq
        have s := snd ρ3 r3
        have f := fst ρ1 r1
        unfold mCT
        refine ⟨by omega, fun _ => ⟨by omega, fun q => by omega, fun _ => ?_⟩, fun q => by omega⟩
        have b3' : RBd υ (yS υ) ρ3 (M (zI υ 14 4)) [] := by
          rw [show zI τ 5 3 = -1 by omega, show zI υ 6 3 = -1 by omega] at b3
          exact b3
        refine r_octD b3' e33 (by omega) (by omega) (fun ρ5 b5 e5 => ?_)
        have j6 := e5.s6
        have j31 := e5.2.2.2.2
        have j38 : zI ρ5 0 38 = zI ρ3 0 38 := e5.2.2.1.1 38 (by decide)
        refine r_octD b5 (e5.s33 e33) (by omega) (by omega) (fun ρ8 b8 e8 => ⟨by decide, kq ρ8 ?_ (e5.2.1.tr e8.2.1) (by have := e8.2.2.2.2; omega) (e5.kf.tr e8.kf)⟩)
        rw [wy]
        unfold yMt
        rw [if_pos (show zI υ 5 0 = 1 by omega), show (192 + 8 * zI υ 6 1 + zI υ 5 1) % 256 = 192 + 8 * zI ρ5 0 38 + zI ρ1 0 38 by omega]
        exact b8
    · -- a segment register to which it is moved
      have z6 : zI υ 6 0 = 1 ∨ zI υ 6 0 = 2 := by omega
      refine x_addWithM (by decide) ug.1 uo ui (by omega) (fun ω wp wk wz wz' wy => fin ω wp wk (by split at wz' <;> omega) ?_)
      rw [cT (by omega)]
      intro ρ1 ρ3 Qr g1 r1 u1 p13 e131 r3 u3 e33 e31 b3 kq
      have s := snd ρ3 r3
      have f := fst ρ1 r1
      unfold mCT
      exact ⟨by omega, fun q => by omega, fun _ => form6 ω ρ1 ρ3 Qr 142 (fun _ => True) (by omega) z6 r1 r3 u3 e33 e31 b3 (by decide) wy kq⟩
  -- the reference's roads
  have roadT : ∀ s : Int, ((zI τ 5 0 = 1 ∧ s = 27) ∨ (zI τ 5 0 = 8 ∧ s = 9)) → ∀ (ρ : ZS) (Qr : Int → ZS → Prop), SY h L E σ (zI σ 14 4) ρ → RB σ ρ (M (zI σ 14 4)) [] → Fresh ρ → (∀ ρ1 ρ2 : ZS, OR τ 5 ρ1 → Opd ρ 1 ρ1 → PR ρ1 ρ2 → zI ρ2 0 31 = zI ρ1 0 31 → zI ρ1 0 6 + 1 ≤ zI ρ2 0 6 → SY h L E (zsI τ 14 4 (zI τ 14 4 + 1)) (zI (zsI τ 14 4 (zI τ 14 4 + 1)) 14 4) ρ2 → RB (zsI τ 14 4 (zI τ 14 4 + 1)) ρ2 (M (zI (zsI τ 14 4 (zI τ 14 4 + 1)) 14 4)) (nm (zI τ 5 3)) → Fresh ρ2 → ∀ K : Int → ZS → Prop, (∀ ρ3 : ZS, mCT ρ1 ρ3 Qr → K 1 ρ3) → (∀ ρ3 : ZS, Qr 0 ρ3 → K 0 ρ3) → wpX11_operand s ρ2 K) → wpX11_mov ρ Qr := by
    intro s hs ρ Qr rS rB rF k
    unfold wpX11_mov
    refine tr ρ [] _ rS rB rF (fun ρ1 s1 b1 d1 r1 => ?_)
    have f := fst ρ1 r1
    refine ⟨by decide, fun _ => ⟨by omega, fun q => by omega, fun _ => ?_⟩, fun q => absurd q (by decide)⟩
    unfold wpX11_movTo
    refine r_take hC1 i0 i1 s1 b1 (by unfold cS; omega) (fun _ ρ2 s2 b2 f2 g2 p2' c1 c2 => ?_) (fun ne => absurd e44 ne)
    have kk2 := k ρ1 ρ2 r1 d1 p2' (g2.1 31 (by decide)) c1 (by rw [qa]; exact s2.k q11 q12) (by rw [qa, hC1.m1 i0 i1 (by omega)]; exact b2.k q11 q13 qo) f2
    have f22 : wpX11_movTo_22 (zI ρ1 0 37) (zI ρ1 0 38) s ρ2 (fun x32 σ33 => (0 ≤ x32 ∧ x32 ≤ 1) ∧ Qr x32 σ33) := by
      unfold wpX11_movTo_22 wpX11_movTo_121 wpX11_movTo_28
      exact kk2 _ (fun ρ3 c => ⟨by decide, fun _ => c, fun q => absurd q (by decide)⟩) (fun ρ3 c => ⟨by decide, fun q => absurd rfl q, fun _ => ⟨by decide, c⟩⟩)
    refine ⟨by decide, fun q => absurd q (by decide), fun _ => ⟨by omega, fun q => ?_, fun q => ?_⟩⟩
    · rw [show (27 : Int) = s by omega]; exact f22
    · rw [show (9 : Int) = s by omega]; exact f22
  have road2 : zI τ 5 0 = 2 → ∀ (ρ : ZS) (Qr : Int → ZS → Prop), SY h L E σ (zI σ 14 4) ρ → RB σ ρ (M (zI σ 14 4)) [] → Fresh ρ → (∀ ρ1 ρ2 : ZS, OR τ 5 ρ1 → Opd ρ 1 ρ1 → PR ρ1 ρ2 → zI ρ2 0 31 = zI ρ1 0 31 → zI ρ1 0 6 + 1 ≤ zI ρ2 0 6 → SY h L E (zsI τ 14 4 (zI τ 14 4 + 1)) (zI (zsI τ 14 4 (zI τ 14 4 + 1)) 14 4) ρ2 → RB (zsI τ 14 4 (zI τ 14 4 + 1)) ρ2 (M (zI (zsI τ 14 4 (zI τ 14 4 + 1)) 14 4)) (nm (zI τ 5 3)) → Fresh ρ2 → ∀ K : Int → ZS → Prop, (∀ ρ3 : ZS, mC2 ρ1 ρ3 Qr → K 1 ρ3) → (∀ ρ3 : ZS, Qr 0 ρ3 → K 0 ρ3) → wpX11_operand 19 ρ2 K) → wpX11_mov ρ Qr := by
    intro hs ρ Qr rS rB rF k
    unfold wpX11_mov wpX11_mov_74
    refine tr ρ [] _ rS rB rF (fun ρ1 s1 b1 d1 r1 => ?_)
    have f := fst ρ1 r1
    refine ⟨by decide, fun _ => ⟨by omega, fun _ => ?_, fun q => by omega⟩, fun q => absurd q (by decide)⟩
    refine r_take hC1 i0 i1 s1 b1 (by unfold cS; omega) (fun _ ρ2 s2 b2 f2 g2 p2' c1 c2 => ?_) (fun ne => absurd e44 ne)
    have kk2 := k ρ1 ρ2 r1 d1 p2' (g2.1 31 (by decide)) c1 (by rw [qa]; exact s2.k q11 q12) (by rw [qa, hC1.m1 i0 i1 (by omega)]; exact b2.k q11 q13 qo) f2
    exact ⟨by decide, fun q => absurd q (by decide), fun _ => kk2 _ (fun ρ3 c => ⟨by decide, fun _ => c, fun q => absurd q (by decide)⟩) (fun ρ3 c => ⟨by decide, fun q => absurd rfl q, fun _ => c⟩)⟩
  rw [show zI (zsI τ 14 4 (zI τ 14 4 + 1)) 5 0 = zI τ 5 0 from ob_I q5 0]
  refine ⟨by omega, fun n1 => ⟨fun n8 => f59 29 19 mC2 (by unfold AB; decide) (fun q => absurd q n8) (fun _ => by decide) (fun _ => rfl) (fun q => by omega) (road2 (by omega)), fun y8 => f59 3 9 mCT (by unfold AB; decide) (fun _ => by decide) (fun q => by omega) (fun q => by omega) (fun _ => rfl) (roadT 9 (Or.inr ⟨y8, rfl⟩))⟩, fun y1 => f59 (zor 29 2) 27 mCT (by unfold AB; decide) (fun q => by omega) (fun q => by omega) (fun q => by omega) (fun _ => rfl) (roadT 27 (Or.inl ⟨y1, rfl⟩))⟩
/-! X: instructions as a whole -/
/-- what a statement of the class does, its word with it -/
def CSi (σ τ : ZS) (x : Int) : Prop := (0 ≤ x ∧ x ≤ 1) ∧ PS τ ∧ kp [5, 6, 13, 14] σ τ ∧ (x = 1 → 2 * zI τ 13 7 ≤ zA σ 12 2 (zI τ 14 4) + 1 ∧ zI σ 14 4 ≤ zI τ 14 4)
/-- the reference's method does the same, from its word on -/
def TSi (h : Int → Int) (L : Int) (E M : Int → Int) (σ τ : ZS) (x : Int) (W : ZS → (Int → ZS → Prop) → Prop) : Prop := ∀ (ρ : ZS) (Qr : Int → ZS → Prop), SY h L E σ (zI σ 14 4) ρ → RB σ ρ (M (zI σ 14 4)) [] → Fresh ρ → zI ρ 0 31 ≤ 2 * zI ρ 0 6 → (x = 1 → ∀ ρ' : ZS, SY h L E τ (zI τ 14 4) ρ' → RB τ ρ' (M (zI τ 14 4)) [] → Fresh ρ' → PR ρ ρ' → zI ρ' 0 31 ≤ 2 * zI ρ' 0 6 → Qr 1 ρ') → (x = 0 → ∀ ρ' : ZS, GG ρ' → PR ρ ρ' → Qr 0 ρ') → W ρ Qr
theorem TSt.i {h : Int → Int} {L x : Int} {E M : Int → Int} {σ τ : ZS} {W : ZS → (Int → ZS → Prop) → Prop} {C : ZS → ZS → (Int → ZS → Prop) → Prop} (hP : PS σ) (hC : CT h L E M σ) (t6 : zA σ 12 0 (zI σ 14 4) = 6) (k : TSt h L E M (zsI σ 14 4 (zI σ 14 4 + 1)) τ x W) (hV : ∀ (ρ γ : ZS) (Qr : Int → ZS → Prop), GG ρ → GG γ → zI ρ 0 9 = zA σ 12 1 (zI σ 14 4) + 12 → zI ρ 0 6 = zA σ 12 2 (zI σ 14 4) → (∀ Qr' : Int → ZS → Prop, (∀ (y : Int) (ρ' : ZS), 0 ≤ y ∧ y ≤ 1 → Qr y ρ' → Qr' y ρ') → W γ Qr') → C ρ γ Qr) : TSi h L E M σ τ x (fun ρ Qr => wpX11_next ρ (fun γ => C ρ γ Qr)) := by
  intro ρ Qr rS rB rF r31 h1 h0
  have i0 := hP.2.2.1.1
  have i1 : zI σ 14 4 < zI σ 12 3 := by have := hP.2.2.1; omega
  have q11 : ob (zsI σ 14 4 (zI σ 14 4 + 1)) 11 = ob σ 11 := ob_i (by decide)
  have q12 : ob (zsI σ 14 4 (zI σ 14 4 + 1)) 12 = ob σ 12 := ob_i (by decide)
  have q13 : ob (zsI σ 14 4 (zI σ 14 4 + 1)) 13 = ob σ 13 := ob_i (by decide)
  have qa : zI (zsI σ 14 4 (zI σ 14 4 + 1)) 14 4 = zI σ 14 4 + 1 := zI_s
  have qo : zI (zsI σ 14 4 (zI σ 14 4 + 1)) 14 5 = zI σ 14 5 := zI_f (by decide)
  have T := (rS.2.2.2.2.f.2.2.2.2.2.2.2.2.2.1 t6).1
  refine r_next hC i0 i1 rS rB (by omega) (fun γ gS gB gF gf gp g1 g2 => hV ρ γ Qr rB.1 gB.1 T rS.2.2.2.1 (fun Qr' hq => k γ Qr' ?_ ?_ gF ?_ (fun e ρ' a b c d f => hq 1 ρ' (by decide) (h1 e ρ' a b c (gp.tr d) f)) (fun e ρ' a b => hq 0 ρ' (by decide) (h0 e ρ' a (gp.tr b)))))
  · rw [qa]; exact gS.k q11 q12
  · rw [qa, hC.m1 i0 i1 (by omega)]; exact gB.k q11 q13 qo
  · have := gf.1 31 (by decide)
    omega
theorem CT.ix {h : Int → Int} {L i j : Int} {E M : Int → Int} {σ : ZS} (hC : CT h L E M σ) (j0 : 0 ≤ j) (i1 : i < zI σ 12 3) (hp : zA σ 12 2 i ≤ zA σ 12 2 j) : i ≤ j := by
  by_cases q : i ≤ j
  · exact q
  · have := hC.pk (i := j) j0 (i - j).toNat (by omega)
    rw [show j + ((i - j).toNat : Int) = i by omega] at this
    omega
theorem CSt.i {h : Int → Int} {L x : Int} {E M : Int → Int} {σ τ : ZS} (hP : PS σ) (hC : CT h L E M σ) (t6 : zA σ 12 0 (zI σ 14 4) = 6) (hz : 2 * zI σ 13 7 ≤ zA σ 12 2 (zI σ 14 4)) (k : CSt (zsI σ 14 4 (zI σ 14 4 + 1)) τ x) : CSi σ τ x := by
  have i0 := hP.2.2.1.1
  have i1 : zI σ 14 4 < zI σ 12 3 := by have := hP.2.2.1; omega
  obtain ⟨k1, k2, k3⟩ := k
  have on : PG σ (zsI σ 14 4 (zI σ 14 4 + 1)) := (PG.rf hP).on (by omega)
  refine ⟨k1, k2.1, on.2.1.tr k2.2.1, fun e => ?_⟩
  have e3 : zI τ 12 3 = zI σ 12 3 := (on.2.1.tr k2.2.1).I (by decide) 3
  have t4 := k2.1.2.2.1
  have p := (hC.pl i0 i1 (show zA σ 12 0 (zI σ 14 4) ≠ 0 by omega)).2 (Or.inr (Or.inr t6))
  have k3' := k3 e
  rw [show zA (zsI σ 14 4 (zI σ 14 4 + 1)) 12 2 = zA σ 12 2 from rfl, show zI (zsI σ 14 4 (zI σ 14 4 + 1)) 13 7 = zI σ 13 7 from rfl, show zI (zsI σ 14 4 (zI σ 14 4 + 1)) 14 4 = zI σ 14 4 + 1 from zI_s] at k3'
  have ix := hC.ix (i := zI σ 14 4) (j := zI τ 14 4) t4.1 (by omega) (by omega)
  omega
/-- a byte alone -/
theorem t_plain {h : Int → Int} {L b : Int} {E M : Int → Int} {σ : ZS} {Q : ZS → Prop} (hP : PS σ) (ho : zI σ 14 5 = 1) (hz : zI σ 13 7 ≤ 242) (hb : 0 ≤ b ∧ b < 256) (hQ : ∀ τ : ZS, CSt σ τ 1 → TSt h L E M σ τ 1 (fun γ Qr => wpX11_octet b γ (fun γ' => Qr 1 γ')) → Q τ) : wpX0_addByte b σ Q := by
  refine x_addByte hP ho (by omega) (fun υ up uk us uy => hQ υ ⟨by decide, (PG.rf hP).ad up uk, fun _ => ?_⟩ (fun ρ Qr rS rB rF r31 h1 h0 => ?_))
  · rw [uk.I (by decide) 4]; omega
  · have e33 : zI ρ 0 33 = 1 := by rw [rB.2.2.1]; exact ho
    refine r_octD rB.d e33 (by omega) (by omega) (fun ρ2 b2 e2 => ?_)
    have j6 := e2.s6
    have j31 := e2.2.2.2.2
    refine h1 rfl ρ2 ?_ ?_ (e2.fresh rF) e2.2.1 (by omega)
    · rw [uk.I (by decide) 4]
      exact (e2.sy rS).k (uk 11 (by decide)) (uk 12 (by decide))
    · rw [uk.I (by decide) 4]
      refine b2.b (uk 11 (by decide)) (uk.I (by decide) 5) ?_
      rw [uy, show b % 256 = b by omega]
/-- the reference's int, behind its word -/
def wInt (γ : ZS) (Qr : Int → ZS → Prop) : Prop := (-2147483648 ≤ (zI γ 0 7) ∧ (zI γ 0 7) ≤ 2147483647) ∧ (¬ (zI γ 0 7) = 2 → wpX11_instruction_123 γ Qr) ∧ ((zI γ 0 7) = 2 → (-2147483648 ≤ (zI γ 0 10) ∧ (zI γ 0 10) ≤ 2147483647) ∧ ((zI γ 0 10) ≤ 255 → wpX11_octet 205 γ (fun σ25 => wpX11_octet (zI σ25 0 10) σ25 (fun σ27 => wpX11_next σ27 (fun σ29 => wpX11_instruction_181 σ29 Qr)))) ∧ (¬ (zI γ 0 10) ≤ 255 → wpX11_instruction_123 γ Qr))
theorem t_int {h : Int → Int} {L : Int} {E M : Int → Int} {σ : ZS} {Q : Int → ZS → Prop} (hP : PS σ) (hC : CT h L E M σ) (ho : zI σ 14 5 = 1) (hz : zI σ 13 7 ≤ 242) (hQ : ∀ (x : Int) (τ : ZS), CSt σ τ x → TSt h L E M σ τ x wInt → Q x τ) : wpX0_addByte 205 σ (fun υ => wpX8_numbered 4 256 υ Q) := by
  have i0 := hP.2.2.1.1
  have i1 : zI σ 14 4 < zI σ 12 3 := by have := hP.2.2.1; omega
  have v0 := hP.tk.2.1
  refine x_addByte hP ho (by omega) (fun υ up uk us uy => ?_)
  have ua : zI υ 14 4 = zI σ 14 4 := uk.I (by decide) 4
  have u0 : zA υ 12 0 = zA σ 12 0 := uk.A (by decide) 0
  have u1 : zA υ 12 1 = zA σ 12 1 := uk.A (by decide) 1
  have pgu : PG σ υ := (PG.rf hP).ad up uk
  refine x_numbered up (Or.inl ⟨rfl, rfl⟩) ((uk.I (by decide) 5).trans ho) (by omega) (fun t2 lt τ pg ta ts t11 t12 ty => ?_) (fun nt => hQ 0 υ ⟨by decide, pgu, fun q => absurd q (by decide)⟩ (fun ρ Qr rS rB rF r31 h1 h0 => ?_))
  · rw [u0, ua] at t2
    rw [u1, ua] at lt
    rw [u1, ua, uy] at ty
    rw [ua] at ta
    refine hQ 1 τ ⟨by decide, pgu.tr pg, fun _ => ?_⟩ (fun ρ Qr rS rB rF r31 h1 h0 => ?_)
    · rw [ta]
      have := (hC.pl i0 i1 (by omega)).1
      omega
    · have T2 := rS.2.2.2.2.f.2.1.mp t2
      have Tv := rS.2.2.2.2.f.2.2.1 t2
      have e33 : zI ρ 0 33 = 1 := by rw [rB.2.2.1]; exact ho
      unfold wInt wpX11_instruction_181
      refine ⟨by omega, fun q => absurd T2 q, fun _ => ⟨by omega, fun _ => ?_, fun q => by omega⟩⟩
      refine r_octD rB.d e33 (by omega) (by decide) (fun ρ2 b2 e2 => ?_)
      have j6 := e2.s6
      have j31 := e2.2.2.2.2
      have j10 : zI ρ2 0 10 = zI ρ 0 10 := e2.2.2.1.1 10 (by decide)
      refine r_octD b2 (e2.s33 e33) (by omega) (by omega) (fun ρ3 b3 e3 => ?_)
      have m6 := e3.s6
      have m31 := e3.2.2.2.2
      refine r_nextD hC i0 i1 (e3.sy (e2.sy rS)) b3 (by omega) (fun γ gS gB gF gf gp g1 g2 => h1 rfl γ ?_ ?_ gF (e2.2.1.tr (e3.2.1.tr gp)) ?_)
      · rw [ta]; exact (gS.k (uk 11 (by decide)) (uk 12 (by decide))).k t11 t12
      · rw [ta, hC.m1 i0 i1 (by omega)]
        refine gB.b (t11.trans (uk 11 (by decide))) (pgu.tr pg).2.2 ?_
        rw [ty, j10, Tv]; rfl
      · have := gf.1 31 (by decide)
        omega
  · rw [u0, u1, ua] at nt
    have T2 := rS.2.2.2.2.f.2.1
    have Tv := rS.2.2.2.2.f.2.2.1
    have l7 := rB.1.2.1.2.2.1
    have l10 := rB.1.2.1.2.2.2.2.1
    have bad : wpX11_instruction_123 ρ Qr := by
      unfold wpX11_instruction_123
      exact s_fault ⟨by decide, h0 rfl _ (GG_34 rB.1) PR_fault⟩
    unfold wInt
    refine ⟨by omega, fun _ => bad, fun q => ⟨by omega, fun le => ?_, fun _ => bad⟩⟩
    have t2 := T2.mpr q
    exact absurd ⟨t2, by have := Tv t2; omega⟩ nt
theorem ztab {w : Int} (h0 : 6 ≤ w) (h1 : w < 36) : (zform w = 6 ∧ w = 6) ∨ (zform w = 7 ∧ ((w = 7 ∧ zcode w = 0) ∨ (w = 8 ∧ zcode w = 1) ∨ (9 ≤ w ∧ w ≤ 12 ∧ zcode w = w - 5))) ∨ (zform w = 8 ∧ ((w = 13 ∧ zcode w = 64) ∨ (w = 14 ∧ zcode w = 72))) ∨ (zform w = 9 ∧ w = 15 ∧ zcode w = 80) ∨ (zform w = 10 ∧ w = 16 ∧ zcode w = 88) ∨ (zform w = 11 ∧ ((w = 17 ∧ zcode w = 1233) ∨ (w = 18 ∧ zcode w = 1489) ∨ (w = 19 ∧ zcode w = 1015) ∨ (w = 20 ∧ zcode w = 1271) ∨ (w = 21 ∧ zcode w = 1783))) ∨ (zform w = 12 ∧ w = 22) ∨ (zform w = 13 ∧ 23 ≤ w ∧ w ≤ 29 ∧ zcode w = jcd (w + 12)) ∨ (zform w = 14 ∧ w = 30) ∨ (zform w = 15 ∧ w = 31) ∨ (zform w = 16 ∧ ((w = 32 ∧ zcode w = 195) ∨ (w = 33 ∧ zcode w = 203) ∨ (w = 35 ∧ zcode w = 244))) ∨ (zform w = 17 ∧ w = 34 ∧ zcode w = 205) := by
  have hc : w = 6 ∨ w = 7 ∨ w = 8 ∨ w = 9 ∨ w = 10 ∨ w = 11 ∨ w = 12 ∨ w = 13 ∨ w = 14 ∨ w = 15 ∨ w = 16 ∨ w = 17 ∨ w = 18 ∨ w = 19 ∨ w = 20 ∨ w = 21 ∨ w = 22 ∨ w = 23 ∨ w = 24 ∨ w = 25 ∨ w = 26 ∨ w = 27 ∨ w = 28 ∨ w = 29 ∨ w = 30 ∨ w = 31 ∨ w = 32 ∨ w = 33 ∨ w = 34 ∨ w = 35 := by omega
  rcases hc with rfl | rfl | rfl | rfl | rfl | rfl | rfl | rfl | rfl | rfl | rfl | rfl | rfl | rfl | rfl | rfl | rfl | rfl | rfl | rfl | rfl | rfl | rfl | rfl | rfl | rfl | rfl | rfl | rfl | rfl <;> first | exact Or.inl (by decide) | exact Or.inr (Or.inl (by decide)) | exact Or.inr (Or.inr (Or.inl (by decide))) | exact Or.inr (Or.inr (Or.inr (Or.inl (by decide)))) | exact Or.inr (Or.inr (Or.inr (Or.inr (Or.inl (by decide))))) | exact Or.inr (Or.inr (Or.inr (Or.inr (Or.inr (Or.inl (by decide)))))) | exact Or.inr (Or.inr (Or.inr (Or.inr (Or.inr (Or.inr (Or.inl (by decide))))))) | exact Or.inr (Or.inr (Or.inr (Or.inr (Or.inr (Or.inr (Or.inr (Or.inl (by decide)))))))) | exact Or.inr (Or.inr (Or.inr (Or.inr (Or.inr (Or.inr (Or.inr (Or.inr (Or.inl (by decide))))))))) | exact Or.inr (Or.inr (Or.inr (Or.inr (Or.inr (Or.inr (Or.inr (Or.inr (Or.inr (Or.inl (by decide)))))))))) | exact Or.inr (Or.inr (Or.inr (Or.inr (Or.inr (Or.inr (Or.inr (Or.inr (Or.inr (Or.inr (Or.inl (by decide))))))))))) | exact Or.inr (Or.inr (Or.inr (Or.inr (Or.inr (Or.inr (Or.inr (Or.inr (Or.inr (Or.inr (Or.inr (by decide)))))))))))
/-- the reference behind an instruction's word -/
def iC (σ σ10 : ZS) (Q : Int → ZS → Prop) : Prop := (-2147483648 ≤ (zI σ 0 9) ∧ (zI σ 0 9) ≤ 2147483647) ∧ (¬ (zI σ 0 9) = 18 → (24 < (zI σ 0 9) → (28 < (zI σ 0 9) → (33 < (zI σ 0 9) → (43 < (zI σ 0 9) → (¬ (zI σ 0 9) = 46 → (¬ (zI σ 0 9) = 44 → (¬ (zI σ 0 9) = 45 → wpX11_instruction_178 244 σ10 Q) ∧ ((zI σ 0 9) = 45 → wpX11_instruction_178 203 σ10 Q)) ∧ ((zI σ 0 9) = 44 → wpX11_instruction_178 195 σ10 Q)) ∧ ((zI σ 0 9) = 46 → (-2147483648 ≤ (zI σ10 0 7) ∧ (zI σ10 0 7) ≤ 2147483647) ∧ (¬ (zI σ10 0 7) = 2 → wpX11_instruction_123 σ10 Q) ∧ ((zI σ10 0 7) = 2 → (-2147483648 ≤ (zI σ10 0 10) ∧ (zI σ10 0 10) ≤ 2147483647) ∧ ((zI σ10 0 10) ≤ 255 → wpX11_octet 205 σ10 (fun (σ25 : ZS) => wpX11_octet (zI σ25 0 10) σ25 (fun (σ27 : ZS) => wpX11_next σ27 (fun (σ29 : ZS) => wpX11_instruction_181 σ29 Q)))) ∧ (¬ (zI σ10 0 10) ≤ 255 → wpX11_instruction_123 σ10 Q)))) ∧ (¬ 43 < (zI σ 0 9) → wpX11_jump (zI σ 0 9) (zI σ 0 6) σ10 (fun (x30 : Int) (σ31 : ZS) => (0 ≤ x30 ∧ x30 ≤ 1) ∧ Q x30 σ31))) ∧ (¬ 33 < (zI σ 0 9) → wpX11_single (zI σ 0 9) σ10 (fun (x33 : Int) (σ34 : ZS) => (0 ≤ x33 ∧ x33 ≤ 1) ∧ Q x33 σ34))) ∧ (¬ 28 < (zI σ 0 9) → wpX11_stack (zI σ 0 9) σ10 (fun (x36 : Int) (σ37 : ZS) => (0 ≤ x36 ∧ x36 ≤ 1) ∧ Q x36 σ37))) ∧ (¬ 24 < (zI σ 0 9) → (¬ (zI σ 0 9) = 19 → (¬ (zI σ 0 9) = 20 → wpX11_instruction_58 (((zI σ 0 9) - 21) + 4) σ10 Q) ∧ ((zI σ 0 9) = 20 → wpX11_instruction_58 1 σ10 Q)) ∧ ((zI σ 0 9) = 19 → wpX11_instruction_58 0 σ10 Q))) ∧ ((zI σ 0 9) = 18 → wpX11_mov σ10 (fun (x41 : Int) (σ42 : ZS) => (0 ≤ x41 ∧ x41 ≤ 1) ∧ Q x41 σ42))
theorem iC_mk {ρ γ : ZS} {Q : Int → ZS → Prop} (hc : 18 ≤ zI ρ 0 9 ∧ zI ρ 0 9 ≤ 47) (aM : zI ρ 0 9 = 18 → wpX11_mov γ (fun x σ' => (0 ≤ x ∧ x ≤ 1) ∧ Q x σ')) (aR : ∀ n : Int, (zI ρ 0 9 = 19 ∧ n = 0) ∨ (zI ρ 0 9 = 20 ∧ n = 1) ∨ (21 ≤ zI ρ 0 9 ∧ zI ρ 0 9 ≤ 24 ∧ n = zI ρ 0 9 - 17) → wpX11_reckon n γ (fun x σ' => (0 ≤ x ∧ x ≤ 1) ∧ Q x σ')) (aS : 25 ≤ zI ρ 0 9 → zI ρ 0 9 ≤ 28 → wpX11_stack (zI ρ 0 9) γ (fun x σ' => (0 ≤ x ∧ x ≤ 1) ∧ Q x σ')) (a1 : 29 ≤ zI ρ 0 9 → zI ρ 0 9 ≤ 33 → wpX11_single (zI ρ 0 9) γ (fun x σ' => (0 ≤ x ∧ x ≤ 1) ∧ Q x σ')) (aJ : 34 ≤ zI ρ 0 9 → zI ρ 0 9 ≤ 43 → wpX11_jump (zI ρ 0 9) (zI ρ 0 6) γ (fun x σ' => (0 ≤ x ∧ x ≤ 1) ∧ Q x σ')) (aP : ∀ b : Int, (zI ρ 0 9 = 44 ∧ b = 195) ∨ (zI ρ 0 9 = 45 ∧ b = 203) ∨ (zI ρ 0 9 = 47 ∧ b = 244) → wpX11_octet b γ (fun γ' => Q 1 γ')) (aI : zI ρ 0 9 = 46 → wInt γ Q) : iC ρ γ Q := by
  unfold iC wpX11_instruction_58 wpX11_instruction_178 wpX11_instruction_181
  refine ⟨by omega, fun n18 => ⟨fun g24 => ⟨fun g28 => ⟨fun g33 => ⟨fun g43 => ⟨fun n46 => ⟨fun n44 => ⟨fun n45 => aP 244 (by omega), fun y45 => aP 203 (by omega)⟩, fun y44 => aP 195 (by omega)⟩, fun y46 => aI y46⟩, fun l43 => aJ (by omega) (by omega)⟩, fun l33 => a1 (by omega) (by omega)⟩, fun l28 => aS (by omega) (by omega)⟩, fun l24 => ⟨fun n19 => ⟨fun n20 => aR _ (by omega), fun y20 => aR _ (by omega)⟩, fun y19 => aR _ (by omega)⟩⟩, fun y18 => aM y18⟩
theorem t_instruction {h : Int → Int} {L : Int} {E M : Int → Int} {σ : ZS} {Q : Int → ZS → Prop} (hP : PS σ) (hC : CT h L E M σ) (ho : zI σ 14 5 = 1) (hz : 2 * zI σ 13 7 ≤ zA σ 12 2 (zI σ 14 4)) (t6 : zA σ 12 0 (zI σ 14 4) = 6) (w0 : 6 ≤ zA σ 12 1 (zI σ 14 4)) (w1 : zA σ 12 1 (zI σ 14 4) < 36) (hQ : ∀ (x : Int) (τ : ZS), CSi σ τ x → TSi h L E M σ τ x wpX11_instruction → Q x τ) : wpX8_instruction (zform (zA σ 12 1 (zI σ 14 4))) (zcode (zA σ 12 1 (zI σ 14 4))) σ Q := by
  have on : PG σ (zsI σ 14 4 (zI σ 14 4 + 1)) := (PG.rf hP).on (by omega)
  have oo : zI (zsI σ 14 4 (zI σ 14 4 + 1)) 14 5 = 1 := ho
  have oa : 1 ≤ zI (zsI σ 14 4 (zI σ 14 4 + 1)) 14 4 := by
    rw [zI_s]
    have := hP.2.2.1
    omega
  have pb := hP.tk.2.2.1
  have hC1 : CT h L E M (zsI σ 14 4 (zI σ 14 4 + 1)) := hC.k (ob_i (by decide)) (ob_i (by decide))
  have hz1 : zI (zsI σ 14 4 (zI σ 14 4 + 1)) 13 7 ≤ 242 := by
    show zI σ 13 7 ≤ 242
    omega
  have gen : ∀ (W : ZS → (Int → ZS → Prop) → Prop), (∀ (ρ γ : ZS) (Qr : Int → ZS → Prop), GG ρ → GG γ → zI ρ 0 9 = zA σ 12 1 (zI σ 14 4) + 12 → zI ρ 0 6 = zA σ 12 2 (zI σ 14 4) → (∀ Qr' : Int → ZS → Prop, (∀ (y : Int) (ρ' : ZS), 0 ≤ y ∧ y ≤ 1 → Qr y ρ' → Qr' y ρ') → W γ Qr') → iC ρ γ Qr) → ∀ (x : Int) (τ : ZS), CSt (zsI σ 14 4 (zI σ 14 4 + 1)) τ x → TSt h L E M (zsI σ 14 4 (zI σ 14 4 + 1)) τ x W → Q x τ :=
    fun W hV x τ c t => hQ x τ (CSt.i hP hC t6 hz c) (TSt.i (C := iC) hP hC t6 t hV)
  have gen' : ∀ (W : ZS → (Int → ZS → Prop) → Prop), (∀ (ρ γ : ZS) (Qr : Int → ZS → Prop), GG ρ → GG γ → zI ρ 0 9 = zA σ 12 1 (zI σ 14 4) + 12 → zI ρ 0 6 = zA σ 12 2 (zI σ 14 4) → (∀ Qr' : Int → ZS → Prop, (∀ (y : Int) (ρ' : ZS), 0 ≤ y ∧ y ≤ 1 → Qr y ρ' → Qr' y ρ') → W γ Qr') → iC ρ γ Qr) → ∀ (x : Int) (τ : ZS), CSt (zsI σ 14 4 (zI σ 14 4 + 1)) τ x → TSt h L E M (zsI σ 14 4 (zI σ 14 4 + 1)) τ x W → (0 ≤ x ∧ x ≤ 1) ∧ Q x τ :=
    fun W hV x τ c t => ⟨c.1, gen W hV x τ c t⟩
  unfold wpX8_instruction wpX8_instruction_174
  rcases ztab w0 w1 with ⟨f, w⟩ | ⟨f, w⟩ | ⟨f, w⟩ | ⟨f, w, c⟩ | ⟨f, w, c⟩ | ⟨f, w⟩ | ⟨f, w⟩ | ⟨f, wa, wb, c⟩ | ⟨f, w⟩ | ⟨f, w⟩ | ⟨f, w⟩ | ⟨f, w, c⟩
  · rw [f]
    exact ⟨by decide, fun _ => t_mov on.1 hC1 oo hz1 (gen' _ (fun ρ γ Qr _ _ e9 e6 k => iC_mk (by omega) (fun _ => k _ (fun y ρ' hy q => ⟨hy, q⟩)) (fun n q => by omega) (fun q => by omega) (fun q => by omega) (fun q => by omega) (fun b q => by omega) (fun q => by omega))), fun q => absurd rfl q⟩
  · rw [f]
    refine ⟨by decide, fun q => absurd q (by decide), fun _ => ⟨fun _ => t_arithmetic on.1 hC1 oo hz1 (by omega) (gen' _ (fun ρ γ Qr _ _ e9 e6 k => iC_mk (by omega) (fun q => by omega) (fun n q => ?_) (fun q => by omega) (fun q => by omega) (fun q => by omega) (fun b q => by omega) (fun q => by omega))), fun q => absurd rfl q⟩⟩
    rw [show n = zcode (zA σ 12 1 (zI σ 14 4)) by omega]
    exact k _ (fun y ρ' hy q => ⟨hy, q⟩)
  · rw [f]
    refine ⟨by decide, fun q => absurd q (by decide), fun _ => ⟨fun q => absurd q (by decide), fun _ => ⟨fun _ => t_onRegister (c := zA σ 12 1 (zI σ 14 4) + 12) (b := 1) on.1 hC1 oo hz1 (by omega) (gen' _ (fun ρ γ Qr _ _ e9 e6 k => iC_mk (by omega) (fun q => by omega) (fun n q => by omega) (fun _ _ => ?_) (fun q => by omega) (fun q => by omega) (fun b q => by omega) (fun q => by omega))), fun q => absurd rfl q⟩⟩⟩
    rw [e9]
    exact k _ (fun y ρ' hy q => ⟨hy, q⟩)
  · rw [f]
    refine ⟨by decide, fun q => absurd q (by decide), fun _ => ⟨fun q => absurd q (by decide), fun _ => ⟨fun q => absurd q (by decide), fun _ => ⟨fun _ => t_onRegister (c := zA σ 12 1 (zI σ 14 4) + 12) (b := 3) on.1 hC1 oo hz1 (by omega) (gen' _ (fun ρ γ Qr _ _ e9 e6 k => iC_mk (by omega) (fun q => by omega) (fun n q => by omega) (fun _ _ => ?_) (fun q => by omega) (fun q => by omega) (fun b q => by omega) (fun q => by omega))), fun q => absurd rfl q⟩⟩⟩⟩
    rw [e9]
    exact k _ (fun y ρ' hy q => ⟨hy, q⟩)
  · rw [f]
    refine ⟨by decide, fun q => absurd q (by decide), fun _ => ⟨fun q => absurd q (by decide), fun _ => ⟨fun q => absurd q (by decide), fun _ => ⟨fun q => absurd q (by decide), fun _ => ⟨fun _ => t_onRegister (c := zA σ 12 1 (zI σ 14 4) + 12) (b := 5) on.1 hC1 oo hz1 (by omega) (gen' _ (fun ρ γ Qr _ _ e9 e6 k => iC_mk (by omega) (fun q => by omega) (fun n q => by omega) (fun _ _ => ?_) (fun q => by omega) (fun q => by omega) (fun b q => by omega) (fun q => by omega))), fun q => absurd rfl q⟩⟩⟩⟩⟩
    rw [e9]
    exact k _ (fun y ρ' hy q => ⟨hy, q⟩)
  · rw [f]
    refine ⟨by decide, fun q => absurd q (by decide), fun _ => ⟨fun q => absurd q (by decide), fun _ => ⟨fun q => absurd q (by decide), fun _ => ⟨fun q => absurd q (by decide), fun _ => ⟨fun q => absurd q (by decide), fun _ => ⟨fun _ => ⟨by omega, t_single (c := zA σ 12 1 (zI σ 14 4) + 12) on.1 hC1 oo hz1 (by omega) (gen' _ (fun ρ γ Qr _ _ e9 e6 k => iC_mk (by omega) (fun q => by omega) (fun n q => by omega) (fun q => by omega) (fun _ _ => ?_) (fun q => by omega) (fun b q => by omega) (fun q => by omega)))⟩, fun q => absurd rfl q⟩⟩⟩⟩⟩⟩
    rw [e9]
    exact k _ (fun y ρ' hy q => ⟨hy, q⟩)
  · rw [f]
    refine ⟨by decide, fun q => absurd q (by decide), fun _ => ⟨fun q => absurd q (by decide), fun _ => ⟨fun q => absurd q (by decide), fun _ => ⟨fun q => absurd q (by decide), fun _ => ⟨fun q => absurd q (by decide), fun _ => ⟨fun q => absurd q (by decide), fun _ => ⟨fun _ => t_jump (c := zA σ 12 1 (zI σ 14 4) + 12) (pp := zA σ 12 2 (zI σ 14 4)) on.1 hC1 oo hz1 (by omega) (by omega) oa (gen' _ (fun ρ γ Qr _ _ e9 e6 k => iC_mk (by omega) (fun q => by omega) (fun n q => by omega) (fun q => by omega) (fun q => by omega) (fun _ _ => ?_) (fun b q => by omega) (fun q => by omega))), fun q => absurd rfl q⟩⟩⟩⟩⟩⟩⟩
    rw [e9, e6]
    exact k _ (fun y ρ' hy q => ⟨hy, q⟩)
  · rw [f]
    refine ⟨by decide, fun q => absurd q (by decide), fun _ => ⟨fun q => absurd q (by decide), fun _ => ⟨fun q => absurd q (by decide), fun _ => ⟨fun q => absurd q (by decide), fun _ => ⟨fun q => absurd q (by decide), fun _ => ⟨fun q => absurd q (by decide), fun _ => ⟨fun q => absurd q (by decide), fun _ => ⟨fun _ => t_jump (c := zA σ 12 1 (zI σ 14 4) + 12) (pp := zA σ 12 2 (zI σ 14 4)) on.1 hC1 oo hz1 (Or.inr (Or.inr (Or.inr ⟨by omega, by omega, rfl, c⟩))) (by omega) oa (gen' _ (fun ρ γ Qr _ _ e9 e6 k => iC_mk (by omega) (fun q => by omega) (fun n q => by omega) (fun q => by omega) (fun q => by omega) (fun _ _ => ?_) (fun b q => by omega) (fun q => by omega))), fun q => absurd rfl q⟩⟩⟩⟩⟩⟩⟩⟩
    rw [e9, e6]
    exact k _ (fun y ρ' hy q => ⟨hy, q⟩)
  · rw [f]
    refine ⟨by decide, fun q => absurd q (by decide), fun _ => ⟨fun q => absurd q (by decide), fun _ => ⟨fun q => absurd q (by decide), fun _ => ⟨fun q => absurd q (by decide), fun _ => ⟨fun q => absurd q (by decide), fun _ => ⟨fun q => absurd q (by decide), fun _ => ⟨fun q => absurd q (by decide), fun _ => ⟨fun q => absurd q (by decide), fun _ => ⟨fun _ => t_jump (c := zA σ 12 1 (zI σ 14 4) + 12) (pp := zA σ 12 2 (zI σ 14 4)) on.1 hC1 oo hz1 (by omega) (by omega) oa (gen' _ (fun ρ γ Qr _ _ e9 e6 k => iC_mk (by omega) (fun q => by omega) (fun n q => by omega) (fun q => by omega) (fun q => by omega) (fun _ _ => ?_) (fun b q => by omega) (fun q => by omega))), fun q => absurd rfl q⟩⟩⟩⟩⟩⟩⟩⟩⟩
    rw [e9, e6]
    exact k _ (fun y ρ' hy q => ⟨hy, q⟩)
  · rw [f]
    refine ⟨by decide, fun q => absurd q (by decide), fun _ => ⟨fun q => absurd q (by decide), fun _ => ⟨fun q => absurd q (by decide), fun _ => ⟨fun q => absurd q (by decide), fun _ => ⟨fun q => absurd q (by decide), fun _ => ⟨fun q => absurd q (by decide), fun _ => ⟨fun q => absurd q (by decide), fun _ => ⟨fun q => absurd q (by decide), fun _ => ⟨fun q => absurd q (by decide), fun _ => ⟨fun _ => t_jump (c := zA σ 12 1 (zI σ 14 4) + 12) (pp := zA σ 12 2 (zI σ 14 4)) on.1 hC1 oo hz1 (by omega) (by omega) oa (gen' _ (fun ρ γ Qr _ _ e9 e6 k => iC_mk (by omega) (fun q => by omega) (fun n q => by omega) (fun q => by omega) (fun q => by omega) (fun _ _ => ?_) (fun b q => by omega) (fun q => by omega))), fun q => absurd rfl q⟩⟩⟩⟩⟩⟩⟩⟩⟩⟩
    rw [e9, e6]
    exact k _ (fun y ρ' hy q => ⟨hy, q⟩)
  · rw [f]
    have pl : wpX0_addByte (zcode (zA σ 12 1 (zI σ 14 4))) (zsI σ 14 4 (zI σ 14 4 + 1)) (fun σ2 => Q 1 σ2) := by
      refine t_plain on.1 oo hz1 (by omega) (gen _ (fun ρ γ Qr _ _ e9 e6 k => iC_mk (by omega) (fun q => by omega) (fun n q => by omega) (fun q => by omega) (fun q => by omega) (fun q => by omega) (fun b q => ?_) (fun q => by omega)) 1)
      rw [show b = zcode (zA σ 12 1 (zI σ 14 4)) by omega]
      exact k Qr (fun y ρ' hy q => q)
    exact ⟨by decide, fun q => absurd q (by decide), fun _ => ⟨fun q => absurd q (by decide), fun _ => ⟨fun q => absurd q (by decide), fun _ => ⟨fun q => absurd q (by decide), fun _ => ⟨fun q => absurd q (by decide), fun _ => ⟨fun q => absurd q (by decide), fun _ => ⟨fun q => absurd q (by decide), fun _ => ⟨fun q => absurd q (by decide), fun _ => ⟨fun q => absurd q (by decide), fun _ => ⟨fun q => absurd q (by decide), fun _ => ⟨fun _ => pl, fun q => absurd rfl q⟩⟩⟩⟩⟩⟩⟩⟩⟩⟩⟩
  · rw [f, c]
    exact ⟨by decide, fun q => absurd q (by decide), fun _ => ⟨fun q => absurd q (by decide), fun _ => ⟨fun q => absurd q (by decide), fun _ => ⟨fun q => absurd q (by decide), fun _ => ⟨fun q => absurd q (by decide), fun _ => ⟨fun q => absurd q (by decide), fun _ => ⟨fun q => absurd q (by decide), fun _ => ⟨fun q => absurd q (by decide), fun _ => ⟨fun q => absurd q (by decide), fun _ => ⟨fun q => absurd q (by decide), fun _ => ⟨fun q => absurd q (by decide), fun _ => ⟨fun _ => t_int on.1 hC1 oo hz1 (gen' _ (fun ρ γ Qr _ _ e9 e6 k => iC_mk (by omega) (fun q => by omega) (fun n q => by omega) (fun q => by omega) (fun q => by omega) (fun q => by omega) (fun b q => by omega) (fun _ => k Qr (fun y ρ' hy q => q)))), fun q => absurd rfl q⟩⟩⟩⟩⟩⟩⟩⟩⟩⟩⟩⟩
