/-! X: word on both sides, in step -/
theorem t_words {h : Int → Int} {L : Int} {E M : Int → Int} {σ : ZS} {Q : Int → ZS → Prop} (hP : PS σ) (hC : CT h L E M σ) (ho : zI σ 14 5 = 1) (hz : 2 * zI σ 13 7 ≤ zA σ 12 2 (zI σ 14 4) + 2) (hQ : ∀ (x : Int) (τ : ZS), CSt σ τ x → TSt h L E M σ τ x (wpX11_data 15) → Q x τ) : wpX8_words σ Q := by
  have start : ∀ ρ : ZS, SY h L E σ (zI σ 14 4) ρ → RB σ ρ (M (zI σ 14 4)) [] → Fresh ρ → zI ρ 0 31 + 2 ≤ 2 * zI ρ 0 6 → HdB h L E M ρ σ ρ := fun ρ a b c d => ⟨a, b, c, PR.rf, d⟩
  have open15 : ∀ (ρ : ZS) (Qr : Int → ZS → Prop), wpX11_data_48 15 1 ρ Qr → wpX11_data 15 ρ Qr := by
    intro ρ Qr k
    unfold wpX11_data
    exact ⟨by decide, fun _ => k, fun q => absurd q (by decide)⟩
  unfold wpX8_words wpX8_words_2
  refine lfp1_ind (fun v _ => (481 - v).toNat) (fun v τ => PG σ τ ∧ (0 ≤ v ∧ v ≤ 481) ∧ v ≤ zI τ 14 4 ∧ (2 * zI τ 13 7 ≤ 2 * zI σ 13 7 + (zA σ 12 2 (zI τ 14 4) - zA σ 12 2 (zI σ 14 4)) ∧ zA σ 12 2 (zI σ 14 4) ≤ zA σ 12 2 (zI τ 14 4)) ∧ (∀ (ρ0 : ZS) (Qr : Int → ZS → Prop) (K : Int → ZS → Prop), (∀ (a : Int) (υ : ZS), wpbX11_data_48 K 15 a υ Qr → K a υ) → (∀ ρ' : ZS, HdB h L E M ρ0 τ ρ' → K 1 ρ') → ∀ ρ : ZS, HdB h L E M ρ0 σ ρ → K 1 ρ)) (fun K v τ hI ih => ?_) ⟨PG.rf hP, by decide, hP.2.2.1.1, by omega, fun ρ0 Qr K hK hG ρ hh => hG ρ hh⟩
  obtain ⟨tg, v0, va, tz, tr⟩ := hI
  have hz' := tg.1.1.1
  have hat := tg.1.2.2.1
  have e11 : ob τ 11 = ob σ 11 := tg.2.1 11 (by decide)
  have e12 : ob τ 12 = ob σ 12 := tg.2.1 12 (by decide)
  have hCt := hC.k e11 e12
  have w2 : zA τ 12 2 = zA σ 12 2 := ob_A e12 2
  have o1 : zI τ 14 5 = 1 := tg.2.2.trans ho
  have i0 := hat.1
  have i1 : zI τ 14 4 < zI τ 12 3 := by omega
  have tk := tg.1.tk
  have tp := tk.2.2.1
  rw [w2] at tp
  unfold wpbX8_words_2
  refine ⟨by omega, by omega, fun q => by omega, fun _ => x_opVal (by decide) tg.1 (fun υ ug ui vr => ⟨by decide, fun _ => ?_, fun q => absurd q (by decide)⟩) (fun vf υ ug => ⟨by decide, fun q => absurd rfl q, fun _ => hQ 0 υ ⟨by decide, tg.o5 ug, fun q => absurd q (by decide)⟩ (fun ρ Qr rS rB rF r31 h1 h0 => open15 ρ Qr ?_)⟩)⟩
  rotate_left
  · unfold wpX11_data_48
    intro P hPP
    refine tr ρ Qr P hPP (fun ρ' hm => hPP _ _ ?_) ρ (start ρ rS rB rF r31)
    obtain ⟨mS, mB, mF, mp, m31⟩ := hm
    unfold wpbX11_data_48
    refine ⟨by decide, fun q => absurd q (by decide), fun _ => ⟨by decide, fun _ => ?_, fun q => absurd q (by decide)⟩⟩
    exact r_value hCt i0 i1 mS mB mF (fun t => absurd t vf.1) (fun t => absurd t vf.2.1) (fun t t' => absurd ⟨t, t'⟩ vf.2.2) (fun _ ρ2 a c => ⟨by decide, fun q => absurd rfl q, fun _ => h0 rfl ρ2 a (mp.tr c)⟩)
  have ul := ug.lv (by decide)
  have hpl : zA σ 12 2 (zI τ 14 4) + 1 ≤ zA σ 12 2 (zI υ 14 4) ∧ zI τ 14 4 + 1 ≤ zI υ 14 4 := by
    rcases vr.2 with ⟨t, e, -⟩ | ⟨t, e, -⟩ | ⟨t, t', e, -⟩
    · have := (hCt.pl i0 i1 (by omega)).1
      rw [w2] at this; rw [e]; omega
    · have := (hCt.pl i0 i1 (by omega)).1
      rw [w2] at this; rw [e]; omega
    · have n := hCt.on i0 i1 (by omega)
      have p1 := (hCt.pl i0 i1 (by omega)).1
      have p2 := (hCt.pl (i := zI τ 14 4 + 1) (by omega) n (by omega)).1
      rw [w2] at p1 p2; rw [e]; omega
  have uo : zI υ 14 5 = 1 := ul.2.2.2.trans o1
  have us : zI υ 13 7 = zI τ 13 7 := ob_I ul.2.2.1 7
  refine x_addValue (by decide) ug.1 uo ui (by omega) (fun ω wp wk ws wy => ?_)
  have wg := (tg.o5 ug).ad wp wk
  have wa : zI ω 14 4 = zI υ 14 4 := wk.I (by decide) 4
  have w11 : ob ω 11 = ob υ 11 := wk 11 (by decide)
  have w12 : ob ω 12 = ob υ 12 := wk 12 (by decide)
  have hCw := (hCt.k ul.1 ul.2.1).k w11 w12
  have j0 := wp.2.2.1
  have ww2 : zA ω 12 2 = zA σ 12 2 := ((ob_A w12 2).trans (ob_A ul.2.1 2)).trans w2
  have elem : ∀ (ρ0 : ZS) (Qr : Int → ZS → Prop) (P : Int → ZS → Prop), (∀ (a : Int) (υ : ZS), wpbX11_data_48 P 15 a υ Qr → P a υ) → (∀ γ : ZS, SY h L E ω (zI ω 14 4) γ → RB ω γ (M (zI ω 14 4)) [] → Fresh γ → PR ρ0 γ → zI γ 0 31 + 3 ≤ 2 * zI γ 0 6 → wpX11_data_109 P 15 γ Qr) → ∀ ρ' : ZS, HdB h L E M ρ0 τ ρ' → P 1 ρ' := by
    intro ρ0 Qr P hPP k ρ' hm
    obtain ⟨mS, mB, mF, mp, m31⟩ := hm
    refine hPP _ _ ?_
    unfold wpbX11_data_48
    refine ⟨by decide, fun q => absurd q (by decide), fun _ => ⟨by decide, fun _ => ?_, fun q => absurd q (by decide)⟩⟩
    refine r_valOK (by decide) hCt tg.1 ug vr mS mB mF (fun ρ1 s1 b1 d1 r1 => ⟨by decide, fun _ => ?_, fun q => absurd q (by decide)⟩)
    obtain ⟨g1, p1, q31, -, q1⟩ := d1
    obtain ⟨q6, qU, qF⟩ := q1 rfl
    have e33 : zI ρ1 0 33 = 1 := by rw [b1.2.2.1]; exact uo
    have b1' : RBd υ (yS υ) ρ1 (M (zI υ 14 4)) (nm (zI υ 5 3) ++ []) := by rw [List.append_nil]; exact b1
    refine r_emitValD (g := 5) b1' vr.1 r1 qU e33 (by omega) (fun γ gB ge => k γ ?_ ?_ (ge.fresh qF) (mp.tr (p1.tr ge.2.1)) ?_)
    · rw [wa]; exact (ge.sy s1).k w11 w12
    · rw [wa]; exact gB.b w11 (wk.I (by decide) 5) wy
    · have := ge.s6
      have := ge.2.2.2.2
      omega
  refine c_take wp (by decide) (fun e44 p => ⟨by decide, fun _ => ih _ _ ⟨wg.on (by omega), by omega, ?_, ?_, fun ρ0 Qr P hPP hG ρ hh => tr ρ0 Qr P hPP (elem ρ0 Qr P hPP (fun γ gS gB gF gp g31 => ?_)) ρ hh⟩ (by omega), fun q => absurd q (by decide)⟩) (fun n44 => ⟨by decide, fun q => absurd rfl q, fun _ => hQ 1 ω ⟨by decide, wg, fun _ => ?_⟩ (fun ρ Qr rS rB rF r31 h1 h0 => open15 ρ Qr ?_)⟩)
  · rw [zI_s]; omega
  · have pw := (hCw.pl (i := zI ω 14 4) (by omega) (by omega) (by omega)).1
    rw [ww2] at pw
    show 2 * zI ω 13 7 ≤ 2 * zI σ 13 7 + (zA σ 12 2 (zI ω 14 4 + 1) - zA σ 12 2 (zI σ 14 4)) ∧ zA σ 12 2 (zI σ 14 4) ≤ zA σ 12 2 (zI ω 14 4 + 1)
    rw [wa] at pw ⊢
    omega
  · have T44 := (gS.2.2.2.2.sg (a := 44) (by unfold cS; omega)).mpr e44
    have l7 := gB.1.2.1.2.2.1
    unfold wpX11_data_109 wpX11_data_123
    refine ⟨by omega, fun q => absurd T44 q, fun _ => ⟨by decide, fun q => absurd q (by decide), fun _ => ?_⟩⟩
    refine r_next hCw (by omega) (by omega) gS gB (by omega) (fun δ dS dB dF df dp d1 d2 => hG δ ⟨?_, ?_, dF, gp.tr dp, ?_⟩)
    · rw [show zI (zsI ω 14 4 (zI ω 14 4 + 1)) 14 4 = zI ω 14 4 + 1 from zI_s]
      exact dS.k (ob_i (by decide)) (ob_i (by decide))
    · rw [show zI (zsI ω 14 4 (zI ω 14 4 + 1)) 14 4 = zI ω 14 4 + 1 from zI_s, hCw.m1 (by omega) (by omega) (by omega)]
      exact dB.k (ob_i (by decide)) (ob_i (by decide)) (zI_f (by decide))
    · have := df.1 31 (by decide)
      omega
  · rw [wa]
    omega
  · unfold wpX11_data_48
    intro P hPP
    refine tr ρ Qr P hPP (elem ρ Qr P hPP (fun γ gS gB gF gp g31 => ?_)) ρ (start ρ rS rB rF r31)
    have N44 : ¬ zI γ 0 7 = 44 := fun q => n44 ((gS.2.2.2.2.sg (a := 44) (by unfold cS; omega)).mp q)
    have l7 := gB.1.2.1.2.2.1
    unfold wpX11_data_109 wpX11_data_123
    refine ⟨by omega, fun _ => ⟨by decide, fun _ => hPP _ _ ?_, fun q => absurd rfl q⟩, fun q => absurd q N44⟩
    unfold wpbX11_data_48
    exact ⟨by decide, fun _ => h1 rfl γ gS gB gF gp (by omega), fun q => absurd rfl q⟩
