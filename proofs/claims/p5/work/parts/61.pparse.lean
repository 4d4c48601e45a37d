/-! P: directives, items, the whole parse -/
theorem GG_ext {σ : ZS} {n : Int} (hG : GG σ) (hn : 0 ≤ n ∧ n < 240 ∧ n < zI σ 0 17) (hz : zA σ 0 13 n = 0) : GG (zsA σ 0 13 n 3) := by
  obtain ⟨hT, hL, hk, hn9, hw, h1, h2, h3, h4, h5, h6⟩ := hG
  have b13 : zA (zsA σ 0 13 n 3) 0 13 = zu (zA σ 0 13) n 3 := rfl
  refine ⟨hT, hL, hk, hn9, hw, ?_, h2, h3, ?_, h5, ?_⟩
  · intro m m0 m1
    obtain ⟨q1, q2, q3, q4⟩ := h1 m m0 m1
    refine ⟨?_, q2, q3, q4⟩
    rw [b13]
    by_cases e : m = n
    · rw [e, pu_eq]; decide
    · rw [pu_ne e]; exact q1
  · refine ⟨h4.1, fun s s0 s1 => ?_, fun m m0 m1 => ?_⟩
    · obtain ⟨q1, q2, q3, q4⟩ := h4.2.1 s s0 s1
      have hne : zA σ 0 35 s ≠ n := fun e => by rw [e] at q2; omega
      refine ⟨q1, ?_, q3, q4⟩
      show zA (zsA σ 0 13 n 3) 0 13 (zA σ 0 35 s) = 1
      rw [b13, pu_ne hne]; exact q2
    · rw [b13]
      by_cases e : m = n
      · rw [e, pu_eq]; exact ⟨fun q => absurd q (by decide), fun q => absurd q (by decide)⟩
      · rw [pu_ne e]; exact h4.2.2 m m0 m1
  · intro hwr
    refine ⟨(h6 hwr).1, fun m m0 m1 => ?_⟩
    rw [b13]
    by_cases e : m = n
    · rw [e, pu_eq]; exact fun q => absurd q (by decide)
    · rw [pu_ne e]; exact (h6 hwr).2 m m0 m1
theorem s_directive {σ : ZS} {Q : Int → ZS → Prop} (hG : GG σ) (ht : zI σ 0 7 = 1) (hc : 12 ≤ zI σ 0 9 ∧ zI σ 0 9 ≤ 17) (hs : 14 < zI σ 0 9 → zI σ 0 33 = 1) (hp : zI σ 0 31 ≤ 2 * zI σ 0 6) (h6 : 6 * zI σ 0 34 ≤ zI σ 0 6) (h7 : 7 * cntP (zA σ 0 19) (zI σ 0 23).toNat ≤ zI σ 0 6) (hQ : ∀ (r : Int) (τ : ZS), Stm σ r τ → Q r τ) : wpX11_directive σ Q := by
  have hL := hG.2.1
  obtain ⟨l1, l2, l3, l4, l5, l6, l7, l8, l9, l10, -⟩ := hL
  have hlt := hG.2.2.1.2.1 (by omega)
  have h12 := hG.2.2.1.2.2.1 ht
  have h13 := hG.2.2.1.2.2.2.1 ht
  unfold wpX11_directive
  refine s_nextG hG (fun a ga pa fa _ a5 asep aF => ?_)
  have a31 := fa.1 31 (by decide); have a34 := fa.1 34 (by decide); have a23 := fa.1 23 (by decide); have a19 := fa.2 19 (by decide); have a6 := pa.2.1
  have hLa := ga.2.1
  obtain ⟨k1, k2, k3, k4, k5, k6, k7, k8, k9, k10, -⟩ := hLa
  have flt : ∀ τ : ZS, GG τ → PR σ τ → zI τ 0 31 ≤ 2 * zI τ 0 6 → wpX11_fault τ (fun x1 σ2 => (0 ≤ x1 ∧ x1 ≤ 1) ∧ Q x1 σ2) := fun τ g p h => s_fault ⟨by decide, hQ 0 _ ⟨GG_34 g, p.tr PR_fault, Or.inl rfl, h⟩⟩
  refine ⟨by omega, fun c15 => s_isName ga.2.1 (fun t1 _ => ⟨by decide, fun _ => ?_, fun q => absurd q (by decide)⟩) ⟨by decide, fun q => absurd rfl q, fun _ => flt a ga pa (by omega)⟩, fun c15 => s_data ga aF (pa.seen ga (hs (by omega))) (by omega) (by omega) (fun r τ h => ⟨by have := h.2.2.1; omega, hQ r τ ⟨h.1, pa.tr h.2.1, h.2.2.1, h.2.2.2⟩⟩)⟩
  refine s_name ga t1 aF (fun n b n0 n1 n2 gb pb fb => ?_)
  have b5 := fb.1 5 (by decide); have b6 := fb.1 6 (by decide); have b7 := fb.1 7 (by decide); have b31 := fb.1 31 (by decide); have b34 := fb.1 34 (by decide); have b23 := fb.1 23 (by decide); have b19 := fb.2 19 (by decide)
  refine s_nextG gb (fun d gd pd fd _ d5 dsep dF => ?_)
  have d31 := fd.1 31 (by decide); have d34 := fd.1 34 (by decide); have d23 := fd.1 23 (by decide); have d19 := fd.2 19 (by decide); have d6 := pd.2.1; have d17 := fd.1 17 (by decide)
  have hLd := gd.2.1
  obtain ⟨m1, m2, m3, m4, m5, m6, m7, m8, -⟩ := hLd
  have sepA := asep ht (Or.inl t1)
  have alt := ga.2.2.1.2.1 (by omega)
  have fF := aF t1
  -- behind the use
  have f90 : ∀ τ : ZS, GG τ → PR σ τ → zI τ 0 6 = zI d 0 6 → zI τ 0 5 = zI d 0 5 → zI τ 0 7 = zI d 0 7 → zI τ 0 10 = zI d 0 10 → zI τ 0 31 = zI d 0 31 → zI τ 0 34 = zI d 0 34 → n < zI τ 0 17 → wpX11_directive_90 (zI σ 0 9) n (zI b 0 6) τ Q := by
    intro τ g p e6 e5 e7 e10 e31 e34 hn
    have done : Q 1 τ := hQ 1 τ ⟨g, p, Or.inr rfl, by omega⟩
    have fl : wpX11_directive_148 τ Q := by unfold wpX11_directive_148; exact flt τ g p (by omega)
    have f153 : zI σ 0 9 = 12 → zI τ 0 7 = 2 → (1 ≤ zI τ 0 10 ∧ zI τ 0 10 ≤ 16) → wpX11_directive_153 n (zI b 0 6) τ Q := by
      intro c12 t2 hal
      have q3 := h12 c12
      have sepD := dsep (by omega) (Or.inr (by omega))
      unfold wpX11_directive_153
      refine s_open g ⟨n0, n1, hn⟩ hal (by omega) (by omega) (fun υ gu pu u6 u31 => ?_)
      refine s_nextG gu (fun ω gw pw fw _ w5 _ _ => ?_)
      have w31 := fw.1 31 (by decide); have w6 := pw.2.1
      exact hQ 1 ω ⟨gw, (p.tr pu).tr pw, Or.inr rfl, by omega⟩
    unfold wpX11_directive_90
    exact ⟨by omega, fun c12 => ⟨by omega, fun _ => fl, fun t2 => ⟨by omega, fun q => f153 c12 t2 (by omega), fun _ => ⟨fun q => f153 c12 t2 (by omega), fun _ => ⟨fun q => f153 c12 t2 (by omega), fun _ => ⟨fun q => f153 c12 t2 (by omega), fun _ => ⟨fun q => f153 c12 t2 (by omega), fun _ => fl⟩⟩⟩⟩⟩⟩, fun _ => done⟩
  have pp : PR σ d := (pa.tr pb).tr pd
  have f60 : ∀ τ : ZS, GG τ → PR σ τ → zI τ 0 6 = zI d 0 6 → zI τ 0 5 = zI d 0 5 → zI τ 0 7 = zI d 0 7 → zI τ 0 10 = zI d 0 10 → zI τ 0 31 = zI d 0 31 → zI τ 0 34 = zI d 0 34 → n < zI τ 0 17 → wpX11_directive_60 (zI σ 0 9) n (zI b 0 6) τ Q := by
    intro τ g p e6 e5 e7 e10 e31 e34 hn
    have hso := (g.2.2.2.2.2.1 n n0 n1).1
    unfold wpX11_directive_60
    refine ⟨by omega, fun _ => f90 τ g p e6 e5 e7 e10 e31 e34 hn, fun _ => ⟨by omega, by omega, fun z => ?_, fun _ => ?_⟩⟩
    · refine f90 _ (GG_ext g ⟨n0, n1, hn⟩ z) (p.tr ⟨fr.a (by decide), Int.le_refl _, Int.le_refl _, Int.le_refl _, fun _ _ _ => ⟨rfl, rfl⟩, fun h => h, Int.le_refl _, Int.le_refl _⟩) e6 e5 e7 e10 e31 e34 hn
    · exact s_wrongAt g.2.1 (by omega) (fun w w0 w1 => f90 _ (GG_18 g ⟨w0, w1⟩) (p.tr (PR_18 w0)) e6 e5 e7 e10 e31 e34 hn)
  refine ⟨fun _ => f60 d gd pp rfl rfl rfl rfl rfl rfl (by omega), fun c13 => ?_⟩
  have q6 := h13 c13
  refine s_use gd (by decide) ⟨n0, n1, by omega⟩ (by omega) (by omega) (fun _ => ?_) (fun υ gu pu fu _ _ => ?_)
  · rw [d19, d23, b19, b23, a19, a23]
    omega
  · exact f60 υ gu (pp.tr pu) (fu.1 6 (by decide)) (fu.1 5 (by decide)) (fu.1 7 (by decide)) (fu.1 10 (by decide)) (fu.1 31 (by decide)) (fu.1 34 (by decide)) (by rw [fu.1 17 (by decide)]; omega)
/-- between two items -/
def Itm (σ : ZS) : Prop := GG σ ∧ Fresh σ ∧ zI σ 0 31 ≤ 2 * zI σ 0 6 ∧ 6 * zI σ 0 34 ≤ zI σ 0 6 ∧ 7 * cntP (zA σ 0 19) (zI σ 0 23).toNat ≤ zI σ 0 6
def ItP (σ : ZS) (r : Int) (τ : ZS) : Prop := PR σ τ ∧ ((r = 0 ∧ GG τ) ∨ (r = 1 ∧ Itm τ ∧ zI σ 0 6 + 1 ≤ zI τ 0 6))
theorem s_item {σ : ZS} {Q : Int → ZS → Prop} (hI : Itm σ) (hQ : ∀ (r : Int) (τ : ZS), ItP σ r τ → Q r τ) : wpX11_item σ Q := by
  obtain ⟨hG, hF, hp, h6, h7⟩ := hI
  have flt : ∀ τ : ZS, GG τ → PR σ τ → wpX11_fault τ (fun x1 σ2 => (0 ≤ x1 ∧ x1 ≤ 1) ∧ Q x1 σ2) := fun τ g p => s_fault ⟨by decide, hQ 0 _ ⟨p.tr PR_fault, Or.inl ⟨rfl, GG_34 g⟩⟩⟩
  have f116 : ∀ τ : ZS, GG τ → PR σ τ → zI τ 0 31 ≤ 2 * zI τ 0 6 → wpX11_item_116 τ Q := by
    intro τ g p q31
    have hL := g.2.1
    obtain ⟨l1, l2, l3, l4, l5, l6, l7, l8, l9, l10, l11, l12, l13, l14, l15, l16, l17, l18, l19⟩ := hL
    have p6 := p.2.1
    unfold wpX11_item_116
    refine s_take g (by decide) (fun υ gu pu fu s5 s6 fs => ⟨by decide, hQ 1 υ ⟨p.tr pu, Or.inr ⟨rfl, ⟨gu, fs, ?_, ?_, ?_⟩, by omega⟩⟩⟩) ⟨by decide, hQ 0 _ ⟨p.tr PR_fault, Or.inl ⟨rfl, GG_34 g⟩⟩⟩
    · rw [fu.1 31 (by decide)]; omega
    · rw [fu.1 34 (by decide)]; omega
    · rw [fu.2 19 (by decide), fu.1 23 (by decide)]; omega
  have f50 : ∀ τ : ZS, GG τ → PR σ τ → zI τ 0 31 ≤ 2 * zI τ 0 6 → 6 * zI τ 0 34 ≤ zI τ 0 6 → 7 * cntP (zA τ 0 19) (zI τ 0 23).toNat ≤ zI τ 0 6 → wpX11_item_50 τ Q := by
    intro τ g p q31 q34 q7
    have hL := g.2.1
    obtain ⟨l1, l2, l3, l4, l5, l6, l7, l8, l9, l10, l11, -⟩ := hL
    have back : ∀ (r : Int) (υ : ZS), Stm τ r υ → (-2147483648 ≤ r ∧ r ≤ 2147483647) ∧ (¬ r = 0 → wpX11_item_116 υ Q) ∧ (r = 0 → wpX11_item_114 υ Q) := by
      intro r υ h
      obtain ⟨gu, pu, hr, u31⟩ := h
      unfold wpX11_item_114
      exact ⟨by omega, fun _ => f116 υ gu (p.tr pu) u31, fun _ => hQ 0 υ ⟨p.tr pu, Or.inl ⟨rfl, gu⟩⟩⟩
    have f88 : zI τ 0 7 = 1 → 12 ≤ zI τ 0 9 → (14 < zI τ 0 9 → zI τ 0 33 = 1) → wpX11_item_88 τ Q := by
      intro t c hs
      unfold wpX11_item_88
      exact ⟨by omega, fun c17 => s_instruction g t c17 (hs (by omega)) q31 back, fun c17 => s_directive g t (by omega) hs q31 q34 q7 back⟩
    unfold wpX11_item_50
    exact ⟨by omega, fun _ => f116 τ g p q31, fun t => ⟨by omega, fun _ => f116 τ g p q31, fun c => ⟨by omega, fun s1 => f88 t (by omega) (fun _ => by omega), fun s0 => ⟨fun c14 => f88 t (by omega) (fun q => by omega), fun _ => flt τ g p⟩⟩⟩⟩
  unfold wpX11_item
  refine s_isName hG.2.1 (fun t _ => ⟨by decide, fun q => absurd q (by decide), fun _ => ?_⟩) ⟨by decide, fun _ => f50 σ hG PR.rf hp h6 h7, fun q => absurd rfl q⟩
  have hL := hG.2.1
  obtain ⟨l1, l2, l3, l4, l5, l6, l7, l8, l9, l10, l11, -⟩ := hL
  refine ⟨by omega, fun s1 => ?_, fun _ => flt σ hG PR.rf⟩
  refine s_name hG t hF (fun n b n0 n1 n2 gb pb fb => ?_)
  have b6 := fb.1 6 (by decide); have b31 := fb.1 31 (by decide); have b34 := fb.1 34 (by decide); have b23 := fb.1 23 (by decide); have b19 := fb.2 19 (by decide)
  have hLb := gb.2.1
  obtain ⟨j1, j2, -⟩ := hLb
  refine s_nextG gb (fun d gd pd fd _ d5 dsep dF => ?_)
  have d31 := fd.1 31 (by decide); have d34 := fd.1 34 (by decide); have d23 := fd.1 23 (by decide); have d19 := fd.2 19 (by decide); have d6 := pd.2.1; have d17 := fd.1 17 (by decide)
  refine s_take gd (by decide) (fun e ge pe fe e5 e6 eF => ⟨by decide, fun _ => ?_, fun q => absurd q (by decide)⟩) ⟨by decide, fun q => absurd rfl q, fun _ => hQ 0 _ ⟨(pb.tr pd).tr PR_fault, Or.inl ⟨rfl, GG_34 gd⟩⟩⟩
  have e31 := fe.1 31 (by decide); have e34 := fe.1 34 (by decide); have e23 := fe.1 23 (by decide); have e19 := fe.2 19 (by decide); have e17 := fe.1 17 (by decide)
  have pp : PR σ e := (pb.tr pd).tr pe
  refine s_label ge (pp.seen ge (by omega)) (by omega) ⟨n0, n1, by omega⟩ (by omega) (fun υ gu pu u6 u5 u7 u9 u34 u19 u23 u31 => ?_)
  refine f50 υ gu (pp.tr pu) (by omega) (by omega) ?_
  rw [u19, u23, u6, e19, e23, d19, d23, b19, b23]
  omega
