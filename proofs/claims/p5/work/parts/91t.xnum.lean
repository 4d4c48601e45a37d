/-! X: a number behind a word, on both sides -/
theorem x_numbered {t l : Int} {σ : ZS} {Q : Int → ZS → Prop} (h : PS σ) (ht : (t = 4 ∧ l = 256) ∨ (t = 5 ∧ l = 65)) (ho : zI σ 14 5 = 1) (hz : zI σ 13 7 < 248) (h1 : zA σ 12 0 (zI σ 14 4) = 2 → zA σ 12 1 (zI σ 14 4) < l → ∀ τ : ZS, PG σ τ → zI τ 14 4 = zI σ 14 4 + 1 → zI τ 13 7 = zI σ 13 7 + 1 → ob τ 11 = ob σ 11 → ob τ 12 = ob σ 12 → yS τ = yI (yS σ) t (zA σ 12 1 (zI σ 14 4)) (-1) → Q 1 τ) (h0 : ¬ (zA σ 12 0 (zI σ 14 4) = 2 ∧ zA σ 12 1 (zI σ 14 4) < l) → Q 0 σ) : wpX8_numbered t l σ Q := by
  have tk := h.tk
  obtain ⟨t1, t2, t3, t4⟩ := tk
  have hN := h.2.2.2.2.2.2
  unfold wpX8_numbered wpX8_numbered_16
  refine c_type h ⟨by omega, fun n2 => h0 (fun q => n2 q.1), fun e2 => c_value h ⟨by omega, by omega, fun lt => c_value h ?_, fun nl => h0 (fun q => nl q.2)⟩⟩
  refine x_add h ⟨by omega, t2, by omega, by decide, by decide, fun q1 q2 => absurd ht (by omega), fun q => absurd q (by decide), fun q => by omega, fun q => absurd q (by omega), fun q => absurd q (by omega)⟩ (Or.inr (Or.inr (Or.inr ho))) hz (fun τ tp tk _ ts ty => h1 e2 lt _ (((PG.rf h).ad tp tk).on ?_) ?_ ts ((ob_i (by decide)).trans (tk 11 (by decide))) ((ob_i (by decide)).trans (tk 12 (by decide))) ((yS.k (ob_i (by decide))).trans ty))
  · rw [tk.A (by decide) 0, tk.I (by decide) 4]; omega
  · rw [zI_s, tk.I (by decide) 4]
/-- space -/
theorem t_space {h : Int → Int} {L : Int} {E M : Int → Int} {σ : ZS} {Q : Int → ZS → Prop} (hP : PS σ) (hC : CT h L E M σ) (ho : zI σ 14 5 = 1) (hz : zI σ 13 7 ≤ 242) (hQ : ∀ (x : Int) (τ : ZS), CSt σ τ x → TSt h L E M σ τ x (wpX11_data 17) → Q x τ) : wpX8_numbered 5 65 σ Q := by
  have i0 := hP.2.2.1.1
  have i1 : zI σ 14 4 < zI σ 12 3 := by have := hP.2.2.1; omega
  have v0 := hP.tk.2.1
  refine x_numbered hP (Or.inr ⟨rfl, rfl⟩) ho (by omega) (fun t2 lt τ pg ta ts t11 t12 ty => hQ 1 τ ⟨by decide, pg, fun _ => ?_⟩ (fun ρ Qr rS rB rF r31 h1 h0 => ?_)) (fun nt => hQ 0 σ ⟨by decide, PG.rf hP, fun q => absurd q (by decide)⟩ (fun ρ Qr rS rB rF r31 h1 h0 => ?_))
  · rw [ta]
    have := (hC.pl i0 i1 (by omega)).1
    omega
  · have T2 := rS.2.2.2.2.f.2.1.mp t2
    have Tv := rS.2.2.2.2.f.2.2.1 t2
    have e33 : zI ρ 0 33 = 1 := by rw [rB.2.2.1]; exact ho
    unfold wpX11_data
    refine ⟨by decide, fun q => absurd rfl q, fun _ => ⟨by omega, fun q => absurd T2 q, fun _ => ⟨by omega, fun _ => ?_, fun q => by omega⟩⟩⟩
    refine x_piece rB.1 e33 (by omega) (by decide) (fun _ q => absurd q (by decide)) (fun _ => by omega) (by omega) (by decide) (by decide) (fun q => by omega) (fun ρ' e x => ?_)
    have j6 := e.s6
    have j31 := e.2.2.2.2
    refine r_nextD hC i0 i1 (e.sy rS) (rB.d.piece e x) (by omega) (fun γ gS gB gF gf gp g1 g2 => h1 rfl γ ?_ ?_ gF (e.2.1.tr gp) ?_)
    · rw [ta]; exact gS.k t11 t12
    · rw [ta, hC.m1 i0 i1 (by omega)]
      refine gB.b t11 pg.2.2 ?_
      rw [ty, Tv]; rfl
    · have := gf.1 31 (by decide)
      omega
  · have T2 := rS.2.2.2.2.f.2.1
    have Tv := rS.2.2.2.2.f.2.2.1
    have l7 := rB.1.2.1.2.2.1
    have l10 := rB.1.2.1.2.2.2.2.1
    have bad : wpX11_data_23 ρ Qr := by
      unfold wpX11_data_23
      exact s_fault ⟨by decide, h0 rfl _ (GG_34 rB.1) PR_fault⟩
    unfold wpX11_data
    refine ⟨by decide, fun q => absurd rfl q, fun _ => ⟨by omega, fun _ => bad, fun q => ⟨by omega, fun le => ?_, fun _ => bad⟩⟩⟩
    have t2 := T2.mpr q
    exact absurd ⟨t2, by have := Tv t2; omega⟩ nt
