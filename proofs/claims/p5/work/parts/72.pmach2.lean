/-! P: the reference's machine steps and runs -/
theorem zlor_wide {w c : Int} (hw : 0 ≤ w ∧ w ≤ 65535) (hc : 0 ≤ c ∧ c ≤ 65535) : zlor (w * 65536) c = w * 65536 + c := by
  unfold zlor
  have e1 : Int64.ofInt (w * 65536) = Int64.ofNat (w.toNat * 65536) := by
    apply Int64.toInt_inj.mp
    rw [z_tl (by omega), Int64.toInt_ofNat_of_lt (by omega)]
    omega
  have e2 : Int64.ofInt c = Int64.ofNat c.toNat := by
    apply Int64.toInt_inj.mp
    rw [z_tl (by omega), Int64.toInt_ofNat_of_lt (by omega)]
    omega
  have e3 : Int64.ofNat (w.toNat * 65536) ||| Int64.ofNat c.toNat = Int64.ofNat (w.toNat * 65536 + c.toNat) := by
    apply Int64.toBitVec_inj.mp
    apply BitVec.eq_of_toNat_eq
    rw [Int64.toBitVec_or, BitVec.toNat_or]
    show (BitVec.ofNat 64 _).toNat ||| (BitVec.ofNat 64 _).toNat = (BitVec.ofNat 64 _).toNat
    rw [BitVec.toNat_ofNat, BitVec.toNat_ofNat, BitVec.toNat_ofNat, Nat.mod_eq_of_lt (by omega), Nat.mod_eq_of_lt (by omega), Nat.mod_eq_of_lt (by omega)]
    have := Nat.shiftLeft_add_eq_or_of_lt (b := c.toNat) (i := 16) (by omega) w.toNat
    rw [Nat.shiftLeft_eq] at this
    exact this.symm
  rw [e1, e2, e3, Int64.toInt_ofNat_of_lt (by omega)]
  omega
theorem m_group {σ : ZS} {N : Int} {Q : Int → ZS → Prop} (h : MM σ N) (hQ : ∀ (x : Int) (τ : ZS), Go σ N τ → (0 ≤ x ∧ x ≤ 3) → Q x τ) : wpX11_group σ Q := by
  obtain ⟨-, -, -, -, -, -, -, h82, -, -⟩ := id h
  have h0 := h.r (i := 0) (by decide) (by decide)
  have h2 := h.r (i := 2) (by decide) (by decide)
  have f28 : ∀ x b : Int, (0 ≤ x ∧ x ≤ 65535) → (0 ≤ b ∧ b ≤ 1) → wpX11_group_28 x b 13 σ Q := by
    intro x b hx hb
    unfold wpX11_group_28
    have g : Go σ N (zsA σ 0 75 13 b) := (Go.rf h).a75 (by omega)
    exact ⟨by decide, m_flags g.1 (by omega) (fun τ k => m_formSet k.1 (by omega) (fun υ l => hQ 0 _ ((g.tr k).tr l) (by decide)))⟩
  unfold wpX11_group wpX11_group_157
  refine m_formGet h (fun x hx => ?_)
  refine ⟨by omega, fun _ => ⟨fun _ => ⟨fun _ => ⟨by omega, by omega, by omega, fun _ => hQ 1 _ (Go.rf h) (by decide), fun nz => ?_⟩, fun _ => hQ 2 _ (Go.rf h) (by decide)⟩, fun _ => ?_⟩, fun _ => ⟨by omega, fun _ => f28 _ _ hx (by decide), fun _ => f28 _ _ hx (by decide)⟩⟩
  · rw [zlor_wide h2 h0]
    obtain ⟨X, hX⟩ : ∃ X, X = zA σ 0 75 2 * 65536 + zA σ 0 75 0 := ⟨_, rfl⟩
    rw [← hX]
    have hXb : 0 ≤ X ∧ X ≤ 4294967295 := by omega
    have q0 : 0 ≤ X / x := Int.ediv_nonneg hXb.1 hx.1
    have q1 : X / x ≤ X := Int.ediv_le_self x hXb.1
    have r0 : 0 ≤ X % x := Int.emod_nonneg X (by omega)
    have r1 : X % x < x := Int.emod_lt_of_pos X (by omega)
    exact ⟨by omega, by omega, by omega, fun q => hQ 0 _ (((Go.rf h).a75 ⟨q0, q⟩).a75 (by omega)) (by decide), fun _ => hQ 1 _ (Go.rf h) (by decide)⟩
  · obtain ⟨τ, hτ⟩ : ∃ τ, τ = zsA (zsA σ 0 75 0 ((zA σ 0 75 0 * x) % 65536)) 0 75 2 ((zlshr (zA σ 0 75 0 * x) 16) % 65536) := ⟨_, rfl⟩
    rw [← hτ]
    have g : Go σ N τ := by rw [hτ]; exact ((Go.rf h).a75 (by omega)).a75 (by omega)
    have ht := g.1.r (i := 2) (by decide) (by decide)
    unfold wpX11_group_109
    exact ⟨by omega, by omega, by omega, fun _ => ⟨by decide, hQ 0 _ (g.a75 (by decide)) (by decide)⟩, fun _ => ⟨by decide, hQ 0 _ (g.a75 (by decide)) (by decide)⟩⟩
theorem m_formed {σ : ZS} {N a : Int} {Q : Int → ZS → Prop} (h : MM σ N) (ha : 0 ≤ a ∧ a ≤ 255) (hQ : ∀ (x : Int) (τ : ZS), Go σ N τ → (0 ≤ x ∧ x ≤ 3) → Q x τ) : wpX11_formed a σ Q := by
  have f63 : ∀ (op x y : Int) (τ : ZS), Go σ N τ → (0 ≤ op ∧ op ≤ 31) → (0 ≤ x ∧ x ≤ 65535) → (0 ≤ y ∧ y ≤ 65535) → wpX11_formed_63 a op x y τ Q := by
    intro op x y τ g ho hx hy
    unfold wpX11_formed_63 wpX11_formed_111
    refine m_reckoned g.1 (by omega) hx hy (fun z υ k hz => ?_)
    obtain ⟨-, -, -, -, -, -, -, u82, -, -⟩ := id k.1
    exact ⟨by omega, fun _ => ⟨by omega, fun _ => m_formSet k.1 (by omega) (fun ω l => hQ 0 _ ((g.tr k).tr l) (by decide)), fun _ => ⟨by omega, hQ 0 _ ((g.tr k).a75 hz) (by decide)⟩⟩, fun _ => hQ 0 _ (g.tr k) (by decide)⟩
  have f38 : ∀ (op x : Int) (τ : ZS), Go σ N τ → (0 ≤ op ∧ op ≤ 31) → (0 ≤ x ∧ x ≤ 65535) → wpX11_formed_38 a op x τ Q := by
    intro op x τ g ho hx
    obtain ⟨-, -, -, -, -, -, -, t82, -, -⟩ := id g.1
    unfold wpX11_formed_38
    exact ⟨by omega, fun _ => ⟨by omega, f63 _ _ _ _ g ho hx (g.1.r (by omega) (by omega))⟩, fun _ => m_formGet g.1 (fun y hy => f63 _ _ _ _ g ho hx hy)⟩
  unfold wpX11_formed
  refine m_readForm h (fun τ g => ?_)
  obtain ⟨-, -, -, -, -, -, -, t82, -, -⟩ := id g.1
  have hr := g.1.r (i := zI τ 0 82) (by omega) (by omega)
  refine ⟨by omega, fun _ => ⟨fun _ => ?_, fun _ => ⟨fun _ => ⟨by omega, m_formSet g.1 (by omega) (fun υ k => hQ 0 _ (g.tr k) (by decide))⟩, fun _ => ⟨fun _ => m_formGet g.1 (fun x hx => ⟨by omega, hQ 0 _ (g.a75 hx) (by decide)⟩), fun _ => ⟨fun _ => ⟨by omega, fun _ => ⟨by omega, ?_⟩, fun _ => hQ 2 _ g (by decide)⟩, fun _ => ⟨fun _ => ⟨by omega, fun _ => hQ 2 _ g (by decide), fun _ => ⟨fun _ => m_formGet g.1 (fun x hx => ⟨by omega, hQ 0 _ (g.a75 hx) (by decide)⟩), fun _ => hQ 2 _ g (by decide)⟩⟩, fun _ => ⟨fun _ => ⟨by omega, fun _ => m_fetchTwo g.1 (fun x υ k hx => m_formSet k.1 (by omega) (fun ω l => hQ 0 _ ((g.tr k).tr l) (by decide))), fun _ => hQ 2 _ g (by decide)⟩, fun _ => ⟨fun _ => m_group g.1 (fun x υ k hx => hQ _ _ (g.tr k) hx), fun _ => m_shift g.1 (fun x υ k hx => hQ _ _ (g.tr k) hx)⟩⟩⟩⟩⟩⟩⟩, fun _ => ⟨by omega, fun _ => m_formGet g.1 (fun x hx => f38 _ _ _ g (by omega) hx), fun _ => ⟨by omega, f38 _ _ _ g (by omega) hr⟩⟩⟩
  · refine m_operation (by omega) (fun x hx => ⟨by omega, fun _ => ?_, fun _ => hQ 2 _ g (by decide)⟩)
    refine m_fetchTwo g.1 (fun y υ k hy => ?_)
    obtain ⟨-, -, -, -, -, -, -, u82, -, -⟩ := id k.1
    refine m_formGet k.1 (fun z hz => m_reckoned k.1 (by omega) hz hy (fun w ω l hw => ?_))
    obtain ⟨-, -, -, -, -, -, -, w82, -, -⟩ := id l.1
    unfold wpX11_formed_219
    exact ⟨by omega, fun _ => hQ 0 _ ((g.tr k).tr l) (by decide), fun _ => m_formSet l.1 (by omega) (fun ψ m => hQ 0 _ (((g.tr k).tr l).tr m) (by decide))⟩
  · have h8 := g.1.r (i := 8 + zI τ 0 82) (by omega) (by omega)
    exact m_formSet g.1 (by omega) (fun υ k => hQ 0 _ (g.tr k) (by decide))
theorem m_control {σ : ZS} {N a : Int} {Q : Int → ZS → Prop} (h : MM σ N) (hN : N ≤ 1000000) (ha : 0 ≤ a ∧ a ≤ 255) (hQ : ∀ (x : Int) (τ : ZS), Go σ (N + 1) τ → (0 ≤ x ∧ x ≤ 3) → Q x τ) : wpX11_control a σ Q := by
  have q : ∀ (x : Int) (τ : ZS), Go σ N τ → (0 ≤ x ∧ x ≤ 3) → Q x τ := fun x τ g hx => hQ x τ ⟨g.1.mo (by omega), g.2⟩ hx
  have f124 : wpX11_control_124 a σ Q := by
    unfold wpX11_control_124 wpX11_control_151
    exact m_fetchSigned h (fun x τ g hx => m_condition g.1 (by omega) (fun y hy => ⟨by omega, fun _ => q 0 _ g (by decide), fun _ => q 0 _ (g.j80 (by omega)) (by decide)⟩))
  have f222 : wpX11_control_222 a σ Q := by
    unfold wpX11_control_222 wpX11_control_242
    refine m_fetchTwo h (fun x τ g hx => ⟨by omega, fun _ => q 0 _ (g.j80 (by omega)) (by decide), fun _ => ?_⟩)
    obtain ⟨-, -, -, -, -, t80, -, -, -, -⟩ := id g.1
    exact m_push g.1 (by omega) (fun υ k => q 0 _ ((g.tr k).j80 (by omega)) (by decide))
  unfold wpX11_control
  refine ⟨by omega, fun _ => f124, fun _ => ⟨fun _ => f124, fun _ => ⟨fun _ => f124, fun _ => ⟨fun _ => f124, fun _ => ⟨fun _ => f124, fun _ => ⟨fun _ => f124, fun _ => ⟨fun _ => ?_, fun _ => ⟨fun _ => ?_, fun _ => ⟨fun _ => ?_, fun _ => ⟨fun _ => ?_, fun _ => ⟨fun _ => ?_, fun _ => ⟨fun _ => f222, fun _ => ⟨fun _ => f222, fun _ => ⟨fun _ => ?_, fun _ => ⟨fun _ => q 2 _ (Go.rf h) (by decide), fun _ => q 3 _ (Go.rf h) (by decide)⟩⟩⟩⟩⟩⟩⟩⟩⟩⟩⟩⟩⟩⟩⟩
  · refine m_fetchTwo h (fun x τ g hx => m_fetchTwo g.1 (fun y υ k hy => ?_))
    have hr := k.1.r (i := 9) (by decide) (by decide)
    refine m_push k.1 (by omega) (fun ω l => ?_)
    obtain ⟨-, -, -, -, -, w80, -, -, -, -⟩ := id l.1
    exact m_push l.1 (by omega) (fun ψ m => q 0 _ (((((g.tr k).tr l).tr m).j80 hx).a75 hy) (by decide))
  · exact m_pop h (fun x τ g hx => q 0 _ (g.j80 hx) (by decide))
  · refine m_pop h (fun x τ g hx => ?_)
    have g2 := g.j80 hx
    exact m_pop g2.1 (fun y υ k hy => q 0 _ ((g2.tr k).a75 hy) (by decide))
  · refine m_fetch h (fun x τ g hx => ?_)
    obtain ⟨-, -, -, -, t78, -⟩ := id g.1
    have fin : ∀ υ : ZS, Go σ N υ → zI υ 0 78 = zI τ 0 78 → wpX11_control_367 υ Q := by
      intro υ k e
      unfold wpX11_control_367
      exact hQ 0 _ ⟨(k.1.mo (M := N + 1) (by omega)).i78 (by rw [e]; omega), k.2.ti (by decide)⟩ (by decide)
    exact ⟨by omega, fun _ => fin τ g rfl, fun _ => ⟨by omega, fin _ ⟨g.1.u79 (zor_bd _ _), g.2.ta (by decide)⟩ rfl⟩⟩
  · refine m_fetchSigned h (fun x τ g hx => ?_)
    obtain ⟨υ, hυ⟩ : ∃ υ, υ = zsA τ 0 75 1 ((zA τ 0 75 1 - 1) % 65536) := ⟨_, rfl⟩
    have k : Go σ N υ := by rw [hυ]; exact g.a75 (by omega)
    have hr := k.1.r (i := 1) (by decide) (by decide)
    rw [← hυ]
    unfold wpX11_control_199
    exact ⟨by omega, fun _ => q 0 _ k (by decide), fun _ => q 0 _ (k.j80 (by omega)) (by decide)⟩
  · exact m_fetchSigned h (fun x τ g hx => q 0 _ (g.j80 (by omega)) (by decide))
theorem m_step {σ : ZS} {N : Int} {Q : Int → ZS → Prop} (h : MM σ N) (hN : N ≤ 1000000) (hQ : ∀ (x : Int) (τ : ZS), Go σ (N + 1) τ → (0 ≤ x ∧ x ≤ 3) → Q x τ) : wpX11_step σ Q := by
  have f151 : ∀ (x : Int) (τ : ZS), Go σ (N + 1) τ → (0 ≤ x ∧ x ≤ 3) → wpX11_step_151 x τ Q := by
    intro x τ g hx
    obtain ⟨-, -, -, -, -, t80, -⟩ := id g.1
    unfold wpX11_step_151 wpX11_step_161
    exact ⟨by omega, fun _ => hQ _ _ g hx, fun _ => ⟨fun _ => hQ _ _ ⟨(g.a75 t80).1, (g.a75 (i := 12) t80).2.ti (by decide)⟩ hx, fun _ => hQ _ _ g hx⟩⟩
  have up : ∀ τ : ZS, Go σ N τ → Go σ (N + 1) τ := fun τ g => ⟨g.1.mo (by omega), g.2⟩
  unfold wpX11_step
  have g0 : Go σ N (zsI σ 0 80 (zA σ 0 75 12)) := (Go.rf h).j80 (h.r (by decide) (by decide))
  refine m_fetch g0.1 (fun c τ k hc => ?_)
  have g := g0.tr k
  have f58 : wpX11_step_58 c τ Q := by
    unfold wpX11_step_58
    exact m_plain g.1 hc (fun x υ l hx => f151 _ _ (up _ (g.tr l)) hx)
  have f145 : wpX11_step_145 c τ Q := by
    unfold wpX11_step_145
    exact m_control g.1 hN hc (fun x υ l hx => f151 _ _ ⟨l.1, g.2.tr l.2⟩ hx)
  have f103 : wpX11_step_103 c τ Q := by
    unfold wpX11_step_103
    exact ⟨by omega, fun _ => f145, fun _ => ⟨by omega, fun _ => f145, fun _ => ⟨fun _ => f145, fun _ => m_pop g.1 (fun x υ l hx => ⟨by omega, f151 _ _ (up _ ((g.tr l).a75 hx)) (by decide)⟩)⟩⟩⟩
  have f67 : wpX11_step_67 c τ Q := by
    unfold wpX11_step_67
    refine ⟨by omega, fun _ => f103, fun _ => ⟨by omega, fun _ => f103, fun _ => ⟨by omega, ?_⟩⟩⟩
    have hr := g.1.r (i := 8 + c / 8) (by omega) (by omega)
    exact m_push g.1 (by omega) (fun υ l => f151 _ _ (up _ (g.tr l)) (by decide))
  have f44 : wpX11_step_44 c τ Q := by
    unfold wpX11_step_44
    exact ⟨by omega, fun _ => f67, fun _ => ⟨fun _ => f67, fun _ => f58⟩⟩
  refine m_hasForm hc (fun x hx => ⟨by omega, fun _ => ⟨by omega, fun _ => f44, fun _ => ⟨fun _ => f58, fun _ => f44⟩⟩, fun _ => ?_⟩)
  exact m_formed g.1 hc (fun y υ l hy => f151 _ _ (up _ (g.tr l)) hy)
abbrev RF : List Nat := [0, 76, 77, 78, 80, 81, 82, 83, 84]
theorem s_run {σ : ZS} {N a : Int} {Q : Int → ZS → Prop} (h : MM σ N) (hN : N ≤ 900000) (ha : -2147483648 ≤ a ∧ a ≤ 2147483647) (hN0 : 0 ≤ N) (hQ : ∀ (x : Int) (τ : ZS), MM τ (N + 400) → fr RF MR σ τ → (0 ≤ x ∧ x ≤ 3) → Q x τ) : wpX11_run a σ Q := by
  have h0 : MM (zsI σ 0 0 0) N := h
  have hf0 : fr RF MR σ (zsI σ 0 0 0) := fr.i (by decide)
  have bad : ∀ r : Int, wpX11_raise r (zsI σ 0 0 0) (fun (x9 : Int) (σ10 : ZS) => Q x9 σ10) := by
    intro r
    have hm : MM (zsI (zsI σ 0 0 0) 0 0 r) N := h
    exact hQ 0 _ (hm.mo (by omega)) (hf0.ti (by decide)) (by decide)
  obtain ⟨-, -, -, h76, -⟩ := id h
  unfold wpX11_run
  refine ⟨ha, fun _ => bad 1, fun _ => ⟨fun _ => ⟨by omega, fun _ => ?_, fun _ => bad 2⟩, fun _ => bad 1⟩⟩
  unfold wpX11_run_38
  refine lfp1_ind (fun v _ => (a - v).toNat) (fun v τ => (0 ≤ v ∧ v ≤ a) ∧ MM τ (N + v) ∧ fr RF MR σ τ) ?_ ⟨by omega, by rw [Int.add_zero]; exact h0, hf0⟩
  intro P v τ ⟨hv, hm, hf⟩ ih
  show wpbX11_run_38 P a v τ Q
  unfold wpbX11_run_38 wpX11_run_70
  refine ⟨by omega, by omega, fun _ => hQ 3 _ (hm.mo (by omega)) hf (by decide), fun nv => ?_⟩
  refine m_step hm (by omega) (fun x υ g hx => ?_)
  have hfu : fr RF MR σ υ := hf.tr (g.2.up (by decide) (by decide))
  have hmu : MM υ (N + 400) := g.1.mo (by omega)
  refine ⟨by omega, fun _ => ⟨fun _ => hQ _ _ (hmu.i76 (by decide)) (hfu.ti (by decide)) hx, fun _ => hQ _ _ (hmu.i76 (by decide)) (hfu.ti (by decide)) (by decide)⟩, fun _ => ih _ _ ⟨by omega, ?_, hfu⟩ (by show (a - (v + 1)).toNat < (a - v).toNat; omega)⟩
  rw [← Int.add_assoc]; exact g.1
