/-! P: instructions -/
def Stm (σ : ZS) (r : Int) (τ : ZS) : Prop := GG τ ∧ PR σ τ ∧ (r = 0 ∨ r = 1) ∧ zI τ 0 31 ≤ 2 * zI τ 0 6
theorem PR.seen {σ τ : ZS} (h : PR σ τ) (g : GG τ) (hs : zI σ 0 33 = 1) : zI τ 0 33 = 1 := by
  have h1 := h.2.2.2.2.2.2.2
  have h2 := g.2.1.2.2.2.2.2.2.2.2.2.2.1
  omega
theorem Em.s6 {k : Int} {σ τ : ZS} (h : Em k σ τ) : zI τ 0 6 = zI σ 0 6 := h.2.2.1.1 6 (by decide)
theorem Em.s33 {k : Int} {σ τ : ZS} (h : Em k σ τ) (hs : zI σ 0 33 = 1) : zI τ 0 33 = 1 := (h.2.2.1.1 33 (by decide)).trans hs
theorem Em.ops {k : Int} {σ τ : ZS} (h : Em k σ τ) (hO : OpU σ) : OpU τ := hO.pr h.2.1 (h.2.2.1.1 37 (by decide)) (h.2.2.1.1 39 (by decide))
theorem s_movTo {σ : ZS} {a b : Int} {Q : Int → ZS → Prop} (hG : GG σ) (hs : zI σ 0 33 = 1) (hp : zI σ 0 31 ≤ 2 * zI σ 0 6) (ha : 0 ≤ a ∧ a ≤ 5) (hb : -100 ≤ b ∧ b ≤ 1000009) (hQ : ∀ (r : Int) (τ : ZS), Stm σ r τ → Q r τ) : wpX11_movTo a b σ Q := by
  have f22 : ∀ (s1 : Int) (τ : ZS), GG τ → PR σ τ → Fresh τ → zI τ 0 31 = zI σ 0 31 → zI σ 0 6 + 1 ≤ zI τ 0 6 → (a = 1 → s1 = 9) → wpX11_movTo_22 a b s1 τ Q := by
    intro s1 τ g p f e31 e6 h9
    unfold wpX11_movTo_22 wpX11_movTo_28 wpX11_movTo_121
    refine s_operand g f (fun r υ hO hx => ⟨by have := hO.2.2.2.1; omega, fun n0 => ?_, fun _ => hQ 0 υ ⟨hO.1, p.tr hO.2.1, Or.inl rfl, ?_⟩⟩)
    rotate_left
    · have h1 := hO.2.1.2.1; have h2 := hO.2.2.1
      omega
    obtain ⟨g2, p2, q31, qr, qq⟩ := hO
    have r1 : r = 1 := by omega
    obtain ⟨q6, qO, -⟩ := qq r1
    obtain ⟨x1, x2⟩ := hx r1
    have hL := g2.2.1
    obtain ⟨-, -, -, -, -, -, -, -, -, -, -, -, -, l14, l15, l16, -⟩ := hL
    have s2 : zI υ 0 33 = 1 := (p.tr p2).seen g2 hs
    have fin : ∀ (k : Int) (ω : ZS), Em k υ ω → k ≤ 3 → Q 1 ω := fun k ω hE hk => hQ 1 ω ⟨hE.1, (p.tr p2).tr hE.2.1, Or.inr rfl, by have := hE.2.2.2.2; rw [hE.s6]; omega⟩
    refine ⟨by omega, fun n1 => ⟨by omega, fun m1 => ⟨fun le2 => ?_, fun gt2 => ?_⟩, fun m1 => ?_⟩, fun n1 => ?_⟩
    · refine s_octet g2 s2 (by omega) (by decide) (fun ω hE => ?_)
      refine s_emitForm hE.1 (hE.s33 s2) (by have := hE.2.2.2.2; rw [hE.s6]; omega) (by rw [hE.2.2.1.1 37 (by decide)]; omega) hb (hE.ops qO) (fun ψ hE2 => fin _ ψ (hE.tr hE2) (by decide))
    · refine s_octet g2 s2 (by omega) (by omega) (fun ω hE => ?_)
      exact s_emitValue hE.1 (hE.s33 s2) (by have := hE.2.2.2.2; rw [hE.s6]; omega) (by rw [hE.2.2.1.1 37 (by decide)]; omega) (hE.ops qO) (fun ψ hE2 => fin _ ψ (hE.tr hE2) (by decide))
    · refine s_octet g2 s2 (by omega) (by decide) (fun ω hE => ?_)
      have e38 := hE.2.2.1.1 38 (by decide)
      exact s_octet hE.1 (hE.s33 s2) (by have := hE.2.2.2.2; rw [hE.s6]; omega) (by omega) (fun ψ hE2 => fin _ ψ (hE.tr hE2) (by decide))
    · have e9 := h9 n1
      subst e9
      have k1 : zI υ 0 37 ≠ 1 := fun q => by
        rcases x1 q with z | z
        · exact z (by decide)
        · exact z (by decide)
      have k2 : ¬ 3 ≤ zI υ 0 37 := fun q => x2 q (by decide)
      refine s_octet g2 s2 (by omega) (by decide) (fun ω hE => ?_)
      exact s_emitForm hE.1 (hE.s33 s2) (by have := hE.2.2.2.2; rw [hE.s6]; omega) (by rw [hE.2.2.1.1 37 (by decide)]; omega) hb (hE.ops qO) (fun ψ hE2 => fin _ ψ (hE.tr hE2) (by decide))
  unfold wpX11_movTo wpX11_movTo_28
  refine s_take hG (by decide) (fun τ g p f s5 s6 fs => ⟨by decide, fun q => absurd q (by decide), fun _ => ⟨by omega, fun n1 => f22 27 τ g p fs (f.1 31 (by decide)) s6 (fun q => absurd q n1), fun n1 => f22 9 τ g p fs (f.1 31 (by decide)) s6 (fun _ => rfl)⟩⟩) ⟨by decide, fun _ => hQ 0 _ ⟨GG_34 hG, PR_fault, Or.inl rfl, hp⟩, fun q => absurd rfl q⟩
theorem GG_ops {σ : ZS} {a b c d e : Int} (h : GG σ) (ha : 0 ≤ a ∧ a ≤ 5) (hb : -100 ≤ b ∧ b ≤ 1000009) (hc : -1 ≤ c ∧ c < 240) (hd : -1 ≤ d ∧ d ≤ 47) (he : -1 ≤ e ∧ e ≤ 47) : GG (zsI (zsI (zsI (zsI (zsI σ 0 37 a) 0 38 b) 0 39 c) 0 41 d) 0 42 e) := GG_42 (GG_41 (GG_39 (GG_38 (GG_37 h ha) hb) hc) hd) he
theorem PR_ops {σ : ZS} {a b c d e : Int} : PR σ (zsI (zsI (zsI (zsI (zsI σ 0 37 a) 0 38 b) 0 39 c) 0 41 d) 0 42 e) := (((PR_op (by decide)).tr (PR_op (by decide))).tr (PR_op (by decide))).tr ((PR_op (by decide)).tr (PR_op (by decide)))
/-- form, then the second's value: three pieces at most -/
theorem s_two {σ : ZS} {k v7 v8 v9 : Int} {Q : ZS → Prop} (hG : GG σ) (hs : zI σ 0 33 = 1) (hp : zI σ 0 31 + 3 ≤ 2 * zI σ 0 6 + 8) (h02 : zI σ 0 37 = 0 ∨ zI σ 0 37 = 2) (hk : -100 ≤ k ∧ k ≤ 1000009) (hO : OpU σ) (b7 : 0 ≤ v7 ∧ v7 ≤ 5) (b8 : -100 ≤ v8 ∧ v8 ≤ 1000009) (b9 : -1 ≤ v9 ∧ v9 < 240) (hu : 4 ≤ v7 → 0 ≤ v9 ∧ hasUse σ v9)
    (hQ : ∀ τ : ZS, GG τ → PR σ τ → zI τ 0 6 = zI σ 0 6 → zI σ 0 31 ≤ zI τ 0 31 → zI τ 0 31 ≤ zI σ 0 31 + 3 → Q τ) : wpX11_emitForm k σ (fun σ2 => (-2147483648 ≤ v7 ∧ v7 ≤ 2147483647) ∧ (v7 ≤ 2 → Q (zsI (zsI (zsI σ2 0 37 v7) 0 38 v8) 0 39 v9)) ∧ (¬ v7 ≤ 2 → wpX11_emitValue (zsI (zsI (zsI σ2 0 37 v7) 0 38 v8) 0 39 v9) (fun σ6 => Q σ6))) := by
  refine s_emitForm hG hs (by omega) h02 hk hO (fun τ hE => ?_)
  have hg : GG (zsI (zsI (zsI τ 0 37 v7) 0 38 v8) 0 39 v9) := GG_39 (GG_38 (GG_37 hE.1 b7) b8) b9
  have hp2 : PR τ (zsI (zsI (zsI τ 0 37 v7) 0 38 v8) 0 39 v9) := ((PR_op (by decide)).tr (PR_op (by decide))).tr (PR_op (by decide))
  have k1 := hE.2.2.2.1; have k2 := hE.2.2.2.2; have k6 := hE.s6
  refine ⟨by omega, fun _ => hQ _ hg (hE.2.1.tr hp2) k6 k1 (by show zI τ 0 31 ≤ _; omega), fun n2 => ?_⟩
  refine s_emitValue hg (hE.s33 hs) (by show zI τ 0 31 + 1 ≤ 2 * zI τ 0 6 + 8; omega) (by show 3 ≤ v7; omega) ⟨fun q => by have q' : v7 = 2 := q; omega, fun q => ⟨(hu q).1, hp2.hasUse (hE.2.1.hasUse (hu q).2)⟩⟩ (fun υ hF => ?_)
  have j1 : zI τ 0 31 ≤ zI υ 0 31 := hF.2.2.2.1
  have j2 : zI υ 0 31 ≤ zI τ 0 31 + 1 := hF.2.2.2.2
  have j6 : zI υ 0 6 = zI τ 0 6 := hF.s6
  exact hQ υ hF.1 ((hE.2.1.tr hp2).tr hF.2.1) (by omega) (by omega) (by omega)
theorem s_mov {σ : ZS} {Q : Int → ZS → Prop} (hG : GG σ) (hF : Fresh σ) (hs : zI σ 0 33 = 1) (hp : zI σ 0 31 ≤ 2 * zI σ 0 6) (hQ : ∀ (r : Int) (τ : ZS), Stm σ r τ → Q r τ) : wpX11_mov σ Q := by
  unfold wpX11_mov wpX11_mov_74
  refine s_operand hG hF (fun r σ1 hO1 hx1 => ?_)
  obtain ⟨g1, p1, a31, ar, aq⟩ := hO1
  have a6 := p1.2.1
  have hL := g1.2.1
  obtain ⟨-, -, -, -, -, -, -, -, -, -, -, -, -, l14, l15, l16, l17, l18, -⟩ := hL
  refine ⟨by omega, fun n0 => ⟨by omega, fun e2 => ?_, fun n2 => ?_⟩, fun _ => hQ 0 σ1 ⟨g1, p1, Or.inl rfl, by omega⟩⟩
  · obtain ⟨b6, bO, bF⟩ := aq (by omega)
    refine s_take g1 (by decide) (fun σ2 g2 p2 f2 s5 s6 fs => ⟨by decide, fun q => absurd q (by decide), fun _ => ?_⟩) ⟨by decide, fun _ => hQ 0 _ ⟨GG_34 g1, p1.tr PR_fault, Or.inl rfl, by show zI σ1 0 31 ≤ 2 * zI σ1 0 6; omega⟩, fun q => absurd rfl q⟩
    have c31 := f2.1 31 (by decide)
    refine s_operand g2 fs (fun r3 σ3 hO3 hx3 => ?_)
    obtain ⟨g3, p3, d31, dr, dq⟩ := hO3
    have d6 := p3.2.1
    have hL3 := g3.2.1
    obtain ⟨-, -, -, -, -, -, -, -, -, -, -, -, -, m14, m15, m16, m17, m18, -⟩ := hL3
    refine ⟨by omega, fun n3 => ⟨by omega, ?_⟩, fun _ => hQ 0 σ3 ⟨g3, (p1.tr p2).tr p3, Or.inl rfl, by omega⟩⟩
    obtain ⟨t6, tO, tF⟩ := dq (by omega)
    have gS : GG (zsI (zsI (zsI (zsI (zsI σ3 0 37 2) 0 38 (zI σ1 0 38)) 0 39 (zI σ1 0 39)) 0 41 (zI σ1 0 41)) 0 42 (zI σ1 0 42)) := GG_ops g3 (by decide) l15 l16 l17 l18
    have s3 : zI σ3 0 33 = 1 := ((p1.tr p2).tr p3).seen g3 hs
    have go : ∀ s1 : Int, 0 ≤ s1 → s1 ≤ 255 → wpX11_mov_149 (zI σ1 0 31) (zI σ3 0 37) (zI σ3 0 38) (zI σ3 0 39) s1 (zsI (zsI (zsI (zsI (zsI σ3 0 37 2) 0 38 (zI σ1 0 38)) 0 39 (zI σ1 0 39)) 0 41 (zI σ1 0 41)) 0 42 (zI σ1 0 42)) Q := by
      intro s1 z0 z1
      unfold wpX11_mov_149
      refine s_octet gS s3 (by show zI σ3 0 31 + 1 ≤ 2 * zI σ3 0 6 + 8; omega) (by omega) (fun τ hE => ?_)
      have y31 : zI τ 0 31 ≤ zI σ3 0 31 + 1 := hE.2.2.2.2
      have y310 : zI σ3 0 31 ≤ zI τ 0 31 := hE.2.2.2.1
      have y6 : zI τ 0 6 = zI σ3 0 6 := hE.s6
      have y37 : zI τ 0 37 = 2 := hE.2.2.1.1 37 (by decide)
      have y39 : zI τ 0 39 = zI σ1 0 39 := hE.2.2.1.1 39 (by decide)
      have yO : OpU τ := ⟨fun _ q => by rw [y39] at q ⊢; exact hE.2.1.hasUse (PR_ops.hasUse ((p2.tr p3).hasUse (bO.1 e2 q))), fun q => by omega⟩
      have go2 : ∀ k : Int, -100 ≤ k → k ≤ 1000009 → wpX11_mov_165 (zI σ1 0 31) (zI σ3 0 37) (zI σ3 0 38) (zI σ3 0 39) k τ Q := by
        intro k k0 k1
        unfold wpX11_mov_165
        refine s_two (Q := fun υ => wpX11_mov_196 (zI σ1 0 31) υ Q) hE.1 (hE.s33 s3) (by omega) (Or.inr y37) ⟨k0, k1⟩ yO m14 m15 m16 (fun q => ⟨(tO.2 q).1, hE.2.1.hasUse (PR_ops.hasUse (tO.2 q).2)⟩) (fun υ gu pu u6 u31 u312 => ?_)
        have hLu := gu.2.1.2.2.2.2.2.2.2.2.1
        have st : ∀ r9 : Int, r9 = 0 ∨ r9 = 1 → Stm σ r9 υ := fun r9 h9 => ⟨gu, (((p1.tr p2).tr p3).tr PR_ops).tr (hE.2.1.tr pu), h9, by omega⟩
        have j1 := gu.2.1.1
        have j2 := gu.2.1.2.1
        have j3 := g1.2.1.2.2.2.2.2.2.2.2.1
        have j4 := g1.2.1.1
        have j5 := g1.2.1.2.1
        unfold wpX11_mov_196 wpX11_mov_209
        exact ⟨by omega, by omega, fun _ => ⟨by decide, hQ 0 υ (st 0 (Or.inl rfl))⟩, fun _ => ⟨by decide, hQ 1 υ (st 1 (Or.inr rfl))⟩⟩
      exact ⟨by omega, fun _ => go2 0 (by decide) (by decide), fun _ => go2 _ m15.1 m15.2⟩
    exact ⟨fun _ => ⟨fun _ => go 199 (by decide) (by decide), fun _ => go 140 (by decide) (by decide)⟩, fun _ => go 137 (by decide) (by decide)⟩
  · refine s_movTo g1 (p1.seen g1 hs) (by omega) l14 l15 (fun r2 τ hS => ⟨by have := hS.2.2.1; omega, hQ r2 τ ⟨hS.1, p1.tr hS.2.1, hS.2.2.1, hS.2.2.2⟩⟩)
theorem s_reckon {σ : ZS} {a : Int} {Q : Int → ZS → Prop} (hG : GG σ) (hF : Fresh σ) (hs : zI σ 0 33 = 1) (hp : zI σ 0 31 ≤ 2 * zI σ 0 6) (ha : -100 ≤ a ∧ a ≤ 100) (hQ : ∀ (r : Int) (τ : ZS), Stm σ r τ → Q r τ) : wpX11_reckon a σ Q := by
  unfold wpX11_reckon
  refine s_operand hG hF (fun r σ1 hO1 hx1 => ?_)
  obtain ⟨g1, p1, a31, ar, aq⟩ := hO1
  have a6 := p1.2.1
  have hL := g1.2.1
  obtain ⟨-, -, -, -, -, -, -, -, -, -, -, -, -, l14, l15, l16, l17, l18, -⟩ := hL
  refine ⟨by omega, fun n0 => ?_, fun _ => hQ 0 σ1 ⟨g1, p1, Or.inl rfl, by omega⟩⟩
  obtain ⟨b6, bO, bF⟩ := aq (by omega)
  have x1 := hx1 (by omega)
  have k02 : zI σ1 0 37 = 0 ∨ zI σ1 0 37 = 2 := by
    have k1 : zI σ1 0 37 ≠ 1 := fun q => by
      rcases x1.1 q with z | z
      · exact z (by decide)
      · exact z (by decide)
    have k2 : ¬ 3 ≤ zI σ1 0 37 := fun q => x1.2 q (by decide)
    omega
  refine s_take g1 (by decide) (fun σ2 g2 p2 f2 s5 s6 fs => ⟨by decide, fun q => absurd q (by decide), fun _ => ?_⟩) ⟨by decide, fun _ => hQ 0 _ ⟨GG_34 g1, p1.tr PR_fault, Or.inl rfl, by show zI σ1 0 31 ≤ 2 * zI σ1 0 6; omega⟩, fun q => absurd rfl q⟩
  have c31 := f2.1 31 (by decide)
  have go : ∀ s1 : Int, (s1 = 17 ∨ s1 = 25) → wpX11_reckon_60 a (zI σ1 0 37) (zI σ1 0 38) (zI σ1 0 39) (zI σ1 0 41) (zI σ1 0 42) s1 σ2 Q := by
    intro s1 hs1
    unfold wpX11_reckon_60 wpX11_reckon_66
    refine s_operand g2 fs (fun r3 σ3 hO3 hx3 => ?_)
    obtain ⟨g3, p3, d31, dr, dq⟩ := hO3
    have d6 := p3.2.1
    have hL3 := g3.2.1
    obtain ⟨-, -, -, -, -, -, -, -, -, -, -, -, -, m14, m15, m16, m17, m18, -⟩ := hL3
    refine ⟨by omega, fun n3 => ?_, fun _ => hQ 0 σ3 ⟨g3, (p1.tr p2).tr p3, Or.inl rfl, by omega⟩⟩
    obtain ⟨t6, tO, tF⟩ := dq (by omega)
    have x3 := hx3 (by omega)
    have kn1 : zI σ3 0 37 ≠ 1 := fun q => by
      rcases hs1 with h1 | h1
      · subst h1
        rcases x3.1 q with z | z
        · exact z (by decide)
        · exact z (by decide)
      · subst h1
        rcases x3.1 q with z | z
        · exact z (by decide)
        · exact z (by decide)
    have s3 : zI σ3 0 33 = 1 := ((p1.tr p2).tr p3).seen g3 hs
    have pp : PR σ σ3 := (p1.tr p2).tr p3
    have f101 : (zI σ3 0 37 = 0 ∨ zI σ3 0 37 = 2) → wpX11_reckon_101 a (zI σ1 0 38) σ3 Q := by
      intro h02
      unfold wpX11_reckon_101
      refine s_octet g3 s3 (by omega) (by omega) (fun τ hE => ?_)
      have y31 := hE.2.2.2.2; have y6 := hE.s6
      refine s_emitForm hE.1 (hE.s33 s3) (by omega) (by rw [hE.2.2.1.1 37 (by decide)]; exact h02) l15 (hE.ops tO) (fun υ hE2 => ?_)
      have z31 := hE2.2.2.2.2; have z6 := hE2.s6
      exact hQ 1 υ ⟨hE2.1, pp.tr (hE.2.1.tr hE2.2.1), Or.inr rfl, by omega⟩
    have gS : GG (zsI (zsI (zsI (zsI (zsI σ3 0 37 (zI σ1 0 37)) 0 38 (zI σ1 0 38)) 0 39 (zI σ1 0 39)) 0 41 (zI σ1 0 41)) 0 42 (zI σ1 0 42)) := GG_ops g3 l14 l15 l16 l17 l18
    have f164 : ∀ s9 : Int, -20000 ≤ s9 → s9 ≤ 20000 → wpX11_reckon_164 a (zI σ3 0 37) (zI σ3 0 38) (zI σ3 0 39) s9 (zsI (zsI (zsI (zsI (zsI σ3 0 37 (zI σ1 0 37)) 0 38 (zI σ1 0 38)) 0 39 (zI σ1 0 39)) 0 41 (zI σ1 0 41)) 0 42 (zI σ1 0 42)) Q := by
      intro s9 z0 z1
      unfold wpX11_reckon_164
      refine s_octet gS s3 (by show zI σ3 0 31 + 1 ≤ 2 * zI σ3 0 6 + 8; omega) (by omega) (fun τ hE => ?_)
      have y31 : zI τ 0 31 ≤ zI σ3 0 31 + 1 := hE.2.2.2.2
      have y310 : zI σ3 0 31 ≤ zI τ 0 31 := hE.2.2.2.1
      have y6 : zI τ 0 6 = zI σ3 0 6 := hE.s6
      have y37 : zI τ 0 37 = zI σ1 0 37 := hE.2.2.1.1 37 (by decide)
      have y39 : zI τ 0 39 = zI σ1 0 39 := hE.2.2.1.1 39 (by decide)
      have yO : OpU τ := ⟨fun q1 q => by rw [y37] at q1; rw [y39] at q ⊢; exact hE.2.1.hasUse (PR_ops.hasUse ((p2.tr p3).hasUse (bO.1 q1 q))), fun q => by omega⟩
      have go2 : ∀ k : Int, -100 ≤ k → k ≤ 1000009 → wpX11_reckon_179 (zI σ3 0 37) (zI σ3 0 38) (zI σ3 0 39) k τ Q := by
        intro k k0 k1
        unfold wpX11_reckon_179
        refine s_two (Q := fun υ => wpX11_reckon_210 υ Q) hE.1 (hE.s33 s3) (by omega) (by rw [y37]; exact k02) ⟨k0, k1⟩ yO m14 m15 m16 (fun q => ⟨(tO.2 q).1, hE.2.1.hasUse (PR_ops.hasUse (tO.2 q).2)⟩) (fun υ gu pu u6 u31 u312 => ?_)
        unfold wpX11_reckon_210
        exact hQ 1 υ ⟨gu, (pp.tr PR_ops).tr (hE.2.1.tr pu), Or.inr rfl, by omega⟩
      exact ⟨by omega, fun _ => go2 a (by omega) (by omega), fun _ => go2 _ m15.1 m15.2⟩
    have f118 : wpX11_reckon_118 a (zI σ1 0 37) (zI σ1 0 38) (zI σ1 0 39) (zI σ1 0 41) (zI σ1 0 42) (zI σ3 0 37) (zI σ3 0 38) (zI σ3 0 39) σ3 Q := by
      unfold wpX11_reckon_118
      exact ⟨by omega, fun _ => f164 129 (by decide) (by decide), fun _ => f164 _ (by omega) (by omega)⟩
    exact ⟨by omega, fun _ => f118, fun _ => ⟨by omega, fun q => f101 (Or.inl q), fun _ => ⟨fun _ => f118, fun q => f101 (Or.inr q)⟩⟩⟩
  exact ⟨by omega, fun _ => go 17 (Or.inl rfl), fun _ => go 25 (Or.inr rfl)⟩
theorem s_stack {σ : ZS} {c : Int} {Q : Int → ZS → Prop} (hG : GG σ) (hF : Fresh σ) (hs : zI σ 0 33 = 1) (hp : zI σ 0 31 ≤ 2 * zI σ 0 6) (hc : 0 ≤ c ∧ c ≤ 100) (hQ : ∀ (r : Int) (τ : ZS), Stm σ r τ → Q r τ) : wpX11_stack c σ Q := by
  have fO : ∀ (a s0 : Int), 0 ≤ s0 → s0 ≤ 1 → wpX11_operand a σ (fun x σ2 => (-2147483648 ≤ x ∧ x ≤ 2147483647) ∧ (¬ x = 0 → wpX11_stack_47 c s0 σ2 Q) ∧ (x = 0 → wpX11_stack_45 σ2 Q)) := by
    intro a s0 z0 z1
    refine s_operand hG hF (fun r σ1 hO1 hx1 => ?_)
    obtain ⟨g1, p1, a31, ar, aq⟩ := hO1
    have a6 := p1.2.1
    have hL := g1.2.1
    obtain ⟨-, -, -, -, -, -, -, -, -, -, -, -, -, l14, l15, -⟩ := hL
    unfold wpX11_stack_45
    refine ⟨by omega, fun n0 => ?_, fun _ => hQ 0 σ1 ⟨g1, p1, Or.inl rfl, by omega⟩⟩
    obtain ⟨b6, bO, bF⟩ := aq (by omega)
    have s1 := p1.seen g1 hs
    have oc : ∀ b : Int, -20000000 ≤ b ∧ b ≤ 20000000 → wpX11_octet b σ1 (fun τ => wpX11_stack_123 τ Q) := by
      intro b hb
      unfold wpX11_stack_123
      exact s_octet g1 s1 (by omega) hb (fun τ hE => hQ 1 τ ⟨hE.1, p1.tr hE.2.1, Or.inr rfl, by have := hE.2.2.2.2; rw [hE.s6]; omega⟩)
    unfold wpX11_stack_47 wpX11_stack_115 wpX11_stack_67
    exact ⟨by omega, fun _ => ⟨by omega, fun _ => ⟨fun _ => ⟨by omega, fun _ => oc _ (by omega), fun _ => oc _ (by omega)⟩, fun _ => oc _ (by omega)⟩, fun _ => oc _ (by omega)⟩, fun _ => ⟨by omega, fun _ => oc _ (by omega), fun _ => oc _ (by omega)⟩⟩
  have f11 : ∀ s0 : Int, 0 ≤ s0 → s0 ≤ 1 → wpX11_stack_11 c s0 σ Q := by
    intro s0 z0 z1
    unfold wpX11_stack_11 wpX11_stack_39
    exact ⟨by omega, fun _ => ⟨by omega, fun _ => fO 5 s0 z0 z1, fun _ => fO 3 s0 z0 z1⟩, fun _ => fO 1 s0 z0 z1⟩
  unfold wpX11_stack
  exact ⟨by omega, fun _ => f11 0 (by decide) (by decide), fun _ => f11 1 (by decide) (by decide)⟩
theorem s_single {σ : ZS} {c : Int} {Q : Int → ZS → Prop} (hG : GG σ) (hF : Fresh σ) (hs : zI σ 0 33 = 1) (hp : zI σ 0 31 + 2 ≤ 2 * zI σ 0 6) (hc : 0 ≤ c ∧ c ≤ 100) (hQ : ∀ (r : Int) (τ : ZS), Stm σ r τ → Q r τ) : wpX11_single c σ Q := by
  unfold wpX11_single
  refine s_operand hG hF (fun r σ1 hO1 hx1 => ?_)
  obtain ⟨g1, p1, a31, ar, aq⟩ := hO1
  have a6 := p1.2.1
  have hL := g1.2.1
  obtain ⟨-, -, -, -, -, -, -, -, -, -, -, -, -, l14, l15, -⟩ := hL
  refine ⟨by omega, fun n0 => ?_, fun _ => hQ 0 σ1 ⟨g1, p1, Or.inl rfl, by omega⟩⟩
  obtain ⟨b6, bO, bF⟩ := aq (by omega)
  have x1 := hx1 (by omega)
  have k02 : zI σ1 0 37 = 0 ∨ zI σ1 0 37 = 2 := by
    have k1 : zI σ1 0 37 ≠ 1 := fun q => by
      rcases x1.1 q with z | z
      · exact z (by decide)
      · exact z (by decide)
    have k2 : ¬ 3 ≤ zI σ1 0 37 := fun q => x1.2 q (by decide)
    omega
  have s1 := p1.seen g1 hs
  have f27 : ∀ b : Int, 0 ≤ b → b ≤ 255 → wpX11_single_27 c b σ1 Q := by
    intro b z0 z1
    unfold wpX11_single_27
    refine s_octet g1 s1 (by omega) (by omega) (fun τ hE => ?_)
    have y31 := hE.2.2.2.2; have y6 := hE.s6
    have f73 : ∀ k : Int, 0 ≤ k → k ≤ 7 → wpX11_single_73 k τ Q := by
      intro k k0 k1
      unfold wpX11_single_73
      refine s_emitForm hE.1 (hE.s33 s1) (by omega) (by rw [hE.2.2.1.1 37 (by decide)]; exact k02) (by omega) (hE.ops bO) (fun υ hE2 => ?_)
      have z31 := hE2.2.2.2.2; have z6 := hE2.s6
      exact hQ 1 υ ⟨hE2.1, p1.tr (hE.2.1.tr hE2.2.1), Or.inr rfl, by omega⟩
    exact ⟨by omega, fun _ => ⟨fun _ => ⟨fun _ => ⟨fun _ => f73 6 (by decide) (by decide), fun _ => f73 4 (by decide) (by decide)⟩, fun _ => f73 3 (by decide) (by decide)⟩, fun _ => f73 5 (by decide) (by decide)⟩, fun _ => f73 4 (by decide) (by decide)⟩
  exact ⟨by omega, fun _ => f27 247 (by decide) (by decide), fun _ => f27 209 (by decide) (by decide)⟩
