/-! X: byte on both sides, in step -/
/-- both at the head of an element -/
def HdB (h : Int → Int) (L : Int) (E M : Int → Int) (ρ0 τ ρ : ZS) : Prop := SY h L E τ (zI τ 14 4) ρ ∧ RB τ ρ (M (zI τ 14 4)) [] ∧ Fresh ρ ∧ PR ρ0 ρ ∧ zI ρ 0 31 + 2 ≤ 2 * zI ρ 0 6
theorem t_bytes {h : Int → Int} {L : Int} {E M : Int → Int} {σ : ZS} {Q : Int → ZS → Prop} (hP : PS σ) (hC : CT h L E M σ) (ho : zI σ 14 5 = 1) (hz : 2 * zI σ 13 7 ≤ zA σ 12 2 (zI σ 14 4) + 2) (hQ : ∀ (x : Int) (τ : ZS), CSt σ τ x → TSt h L E M σ τ x (wpX11_data 16) → Q x τ) : wpX8_bytes σ Q := by
  have start : ∀ ρ : ZS, SY h L E σ (zI σ 14 4) ρ → RB σ ρ (M (zI σ 14 4)) [] → Fresh ρ → zI ρ 0 31 + 2 ≤ 2 * zI ρ 0 6 → HdB h L E M ρ σ ρ := fun ρ a b c d => ⟨a, b, c, PR.rf, d⟩
  have open16 : ∀ (ρ : ZS) (Qr : Int → ZS → Prop), wpX11_data_48 16 1 ρ Qr → wpX11_data 16 ρ Qr := by
    intro ρ Qr k
    unfold wpX11_data
    exact ⟨by decide, fun _ => k, fun q => absurd q (by decide)⟩
  unfold wpX8_bytes wpX8_bytes_2
  refine lfp1_ind (fun v _ => (481 - v).toNat) (fun v τ => PG σ τ ∧ (0 ≤ v ∧ v ≤ 481) ∧ v ≤ zI τ 14 4 ∧ (2 * zI τ 13 7 ≤ 2 * zI σ 13 7 + (zA σ 12 2 (zI τ 14 4) - zA σ 12 2 (zI σ 14 4)) ∧ zA σ 12 2 (zI σ 14 4) ≤ zA σ 12 2 (zI τ 14 4)) ∧ (∀ (ρ0 : ZS) (Qr : Int → ZS → Prop) (K : Int → ZS → Prop), (∀ (a : Int) (υ : ZS), wpbX11_data_48 K 16 a υ Qr → K a υ) → (∀ ρ' : ZS, HdB h L E M ρ0 τ ρ' → K 1 ρ') → ∀ ρ : ZS, HdB h L E M ρ0 σ ρ → K 1 ρ)) (fun K v τ hI ih => ?_) ⟨PG.rf hP, by decide, hP.2.2.1.1, by omega, fun ρ0 Qr K hK hG ρ hh => hG ρ hh⟩
  obtain ⟨tg, v0, va, tz, tr⟩ := hI
  have hz' := tg.1.1.1
  have hat := tg.1.2.2.1
  have e11 : ob τ 11 = ob σ 11 := tg.2.1 11 (by decide)
  have e12 : ob τ 12 = ob σ 12 := tg.2.1 12 (by decide)
  have hCt := hC.k e11 e12
  have w2 : zA τ 12 2 = zA σ 12 2 := ob_A e12 2
  have o1 : zI τ 14 5 = 1 := tg.2.2.trans ho
  have i0 := hat.1
  have i1 : zI τ 14 4 < zI τ 12 3 := by omega
  have tk := tg.1.tk
  have tp := tk.2.2.1
  rw [w2] at tp
  unfold wpbX8_bytes_2
  refine ⟨by omega, by omega, fun q => by omega, fun _ => x_numbered tg.1 (Or.inl ⟨rfl, rfl⟩) o1 (by omega) (fun t2 lt ω wg wa ws w11 w12 wy => ⟨by decide, fun _ => ?_, fun q => absurd q (by decide)⟩) (fun nt => ⟨by decide, fun q => absurd rfl q, fun _ => hQ 0 τ ⟨by decide, tg, fun q => absurd q (by decide)⟩ (fun ρ Qr rS rB rF r31 h1 h0 => open16 ρ Qr ?_)⟩)⟩
  rotate_left
  · unfold wpX11_data_48
    intro P hPP
    refine tr ρ Qr P hPP (fun ρ' hm => hPP _ _ ?_) ρ (start ρ rS rB rF r31)
    obtain ⟨mS, mB, mF, mp, m31⟩ := hm
    have T2 := mS.2.2.2.2.f.2.1
    have Tv := mS.2.2.2.2.f.2.2.1
    have l7 := mB.1.2.1.2.2.1
    have l10 := mB.1.2.1.2.2.2.2.1
    have bad : wpX11_data_76 ρ' Qr := by
      unfold wpX11_data_76
      exact s_fault ⟨by decide, h0 rfl _ (GG_34 mB.1) (mp.tr PR_fault)⟩
    unfold wpbX11_data_48
    refine ⟨by decide, fun q => absurd q (by decide), fun _ => ⟨by decide, fun q => absurd rfl q, fun _ => ⟨by omega, fun _ => bad, fun q => ⟨by omega, fun le => ?_, fun _ => bad⟩⟩⟩⟩
    have t2 := T2.mpr q
    exact absurd ⟨t2, by have := Tv t2; omega⟩ nt
  have pl := (hCt.pl i0 i1 (by omega)).1
  rw [w2] at pl
  have hCw := hCt.k w11 w12
  have j0 := wg.1.2.2.1
  have ew3 : zI ω 12 3 = zI τ 12 3 := ob_I w12 3
  have tgw := tg.tr wg
  have ww2 : zA ω 12 2 = zA σ 12 2 := (ob_A w12 2).trans w2
  -- the reference's element: a byte, then what follows
  have elem : ∀ (ρ0 : ZS) (Qr : Int → ZS → Prop) (P : Int → ZS → Prop), (∀ (a : Int) (υ : ZS), wpbX11_data_48 P 16 a υ Qr → P a υ) → (∀ γ : ZS, SY h L E ω (zI ω 14 4) γ → RB ω γ (M (zI ω 14 4)) [] → Fresh γ → PR ρ0 γ → zI γ 0 31 + 3 ≤ 2 * zI γ 0 6 → wpX11_data_109 P 16 γ Qr) → ∀ ρ' : ZS, HdB h L E M ρ0 τ ρ' → P 1 ρ' := by
    intro ρ0 Qr P hPP k ρ' hm
    obtain ⟨mS, mB, mF, mp, m31⟩ := hm
    have T2 := mS.2.2.2.2.f.2.1.mp t2
    have Tv := mS.2.2.2.2.f.2.2.1 t2
    have v0' := tk.2.1
    have e33 : zI ρ' 0 33 = 1 := by rw [mB.2.2.1]; exact o1
    refine hPP _ _ ?_
    unfold wpbX11_data_48
    refine ⟨by decide, fun q => absurd q (by decide), fun _ => ⟨by decide, fun q => absurd rfl q, fun _ => ⟨by omega, fun q => absurd T2 q, fun _ => ⟨by omega, fun _ => ?_, fun q => by omega⟩⟩⟩⟩
    refine r_octD mB.d e33 (by omega) (by omega) (fun ρ1 b1 e1 => ?_)
    have j6 := e1.s6
    have j31 := e1.2.2.2.2
    refine r_nextD hCt i0 i1 (e1.sy mS) b1 (by omega) (fun γ gS gB gF gf gp g1 g2 => k γ ?_ ?_ gF (mp.tr (e1.2.1.tr gp)) ?_)
    · rw [wa]; exact gS.k w11 w12
    · rw [wa, hCt.m1 i0 i1 (by omega)]
      refine gB.b w11 wg.2.2 ?_
      rw [wy, Tv]; rfl
    · have := gf.1 31 (by decide)
      omega
  refine c_take wg.1 (by decide) (fun e44 p => ⟨by decide, fun _ => ih _ _ ⟨tgw.on (by omega), by omega, ?_, ?_, fun ρ0 Qr P hPP hG ρ hh => tr ρ0 Qr P hPP (elem ρ0 Qr P hPP (fun γ gS gB gF gp g31 => ?_)) ρ hh⟩ (by omega), fun q => absurd q (by decide)⟩) (fun n44 => ⟨by decide, fun q => absurd rfl q, fun _ => hQ 1 ω ⟨by decide, tgw, fun _ => ?_⟩ (fun ρ Qr rS rB rF r31 h1 h0 => open16 ρ Qr ?_)⟩)
  · rw [zI_s]; omega
  · have pw := (hCw.pl (i := zI ω 14 4) (by omega) (by omega) (by omega)).1
    rw [ww2] at pw
    show 2 * zI ω 13 7 ≤ 2 * zI σ 13 7 + (zA σ 12 2 (zI ω 14 4 + 1) - zA σ 12 2 (zI σ 14 4)) ∧ zA σ 12 2 (zI σ 14 4) ≤ zA σ 12 2 (zI ω 14 4 + 1)
    rw [wa] at pw ⊢
    omega
  · have T44 := (gS.2.2.2.2.sg (a := 44) (by unfold cS; omega)).mpr e44
    have l7 := gB.1.2.1.2.2.1
    unfold wpX11_data_109 wpX11_data_123
    refine ⟨by omega, fun q => absurd T44 q, fun _ => ⟨by decide, fun q => absurd q (by decide), fun _ => ?_⟩⟩
    refine r_next hCw (by omega) (by omega) gS gB (by omega) (fun δ dS dB dF df dp d1 d2 => hG δ ⟨?_, ?_, dF, gp.tr dp, ?_⟩)
    · rw [show zI (zsI ω 14 4 (zI ω 14 4 + 1)) 14 4 = zI ω 14 4 + 1 from zI_s]
      exact dS.k (ob_i (by decide)) (ob_i (by decide))
    · rw [show zI (zsI ω 14 4 (zI ω 14 4 + 1)) 14 4 = zI ω 14 4 + 1 from zI_s, hCw.m1 (by omega) (by omega) (by omega)]
      exact dB.k (ob_i (by decide)) (ob_i (by decide)) (zI_f (by decide))
    · have := df.1 31 (by decide)
      omega
  · rw [wa]
    omega
  · unfold wpX11_data_48
    intro P hPP
    refine tr ρ Qr P hPP (elem ρ Qr P hPP (fun γ gS gB gF gp g31 => ?_)) ρ (start ρ rS rB rF r31)
    have N44 : ¬ zI γ 0 7 = 44 := fun q => n44 ((gS.2.2.2.2.sg (a := 44) (by unfold cS; omega)).mp q)
    have l7 := gB.1.2.1.2.2.1
    unfold wpX11_data_109 wpX11_data_123
    refine ⟨by omega, fun _ => ⟨by decide, fun _ => hPP _ _ ?_, fun q => absurd rfl q⟩, fun q => absurd q N44⟩
    unfold wpbX11_data_48
    exact ⟨by decide, fun _ => h1 rfl γ gS gB gF gp (by omega), fun q => absurd rfl q⟩
