/-! P: memory, any operand -/
def Prt (σ : ZS) (r : Int) (τ : ZS) : Prop := GG τ ∧ PR σ τ ∧ zI τ 0 31 = zI σ 0 31 ∧ (r = 0 ∨ r = 1) ∧ zI τ 0 5 = zI σ 0 5 ∧ zI τ 0 6 = zI σ 0 6 ∧ zI τ 0 7 = zI σ 0 7 ∧ zI τ 0 10 = zI σ 0 10 ∧ zI τ 0 37 = 2 ∧ OpU τ ∧ (r = 1 → zI σ 0 7 ≠ 0)
theorem s_part {σ : ZS} {Q : Int → ZS → Prop} (hG : GG σ) (hF : Fresh σ) (h2 : zI σ 0 37 = 2) (hO : OpU σ) (hQ : ∀ (r : Int) (τ : ZS), Prt σ r τ → Q r τ) : wpX11_part σ Q := by
  have hL := hG.2.1
  have hL0 := hL
  obtain ⟨l1, l2, l3, l4, l5, l6, l7, l8, l9, l10, l11, l12, l13, l14, l15, l16, l17, l18, -⟩ := hL
  have no : Q 0 σ := hQ 0 σ ⟨hG, PR.rf, rfl, Or.inl rfl, rfl, rfl, rfl, rfl, h2, hO, fun q => absurd q (by decide)⟩
  have f28 : zI σ 0 7 = 1 → wpX11_part_28 σ Q := by
    intro t
    unfold wpX11_part_28
    refine ⟨by omega, fun _ => hQ 1 _ ⟨GG_41 hG (by omega), PR_op (by decide), rfl, Or.inr rfl, rfl, rfl, rfl, rfl, h2, hO, fun _ => by omega⟩, fun _ => no⟩
  unfold wpX11_part wpX11_part_91
  refine ⟨by omega, fun n2 => ?_, fun t2 => hQ 1 σ ⟨hG, PR.rf, rfl, Or.inr rfl, rfl, rfl, rfl, rfl, h2, hO, fun _ => by omega⟩⟩
  refine s_isWord hL0 (by decide) (fun t _ _ => ⟨by decide, fun _ => f28 t, fun q => absurd q (by decide)⟩) ⟨by decide, fun q => absurd rfl q, fun _ => ?_⟩
  refine s_isWord hL0 (by decide) (fun t _ _ => ⟨by decide, fun q => absurd q (by decide), fun _ => f28 t⟩) ⟨by decide, fun _ => ?_, fun q => absurd rfl q⟩
  refine s_isWord hL0 (by decide) (fun t _ _ => ⟨by decide, fun q => absurd q (by decide), fun _ => ⟨by omega, fun _ => hQ 1 _ ⟨GG_42 hG (by omega), PR_op (by decide), rfl, Or.inr rfl, rfl, rfl, rfl, rfl, h2, hO, fun _ => by omega⟩, fun _ => no⟩⟩) ⟨by decide, fun _ => ?_, fun q => absurd rfl q⟩
  refine s_isName hL0 (fun t c => ⟨by decide, fun q => absurd q (by decide), fun _ => ⟨by omega, fun _ => ?_, fun _ => no⟩⟩) ⟨by decide, fun _ => no, fun q => absurd rfl q⟩
  refine s_name hG t hF (fun n τ n0 n1 n2 hGt hPt hft => ?_)
  have hLt := hGt.2.1
  obtain ⟨m1, m2, m3, -⟩ := hLt
  have e6 := hft.1 6 (by decide); have e5 := hft.1 5 (by decide); have e23 := hft.1 23 (by decide); have e7 := hft.1 7 (by decide); have e37 := hft.1 37 (by decide); have e31 := hft.1 31 (by decide); have e10 := hft.1 10 (by decide)
  have hlt := hG.2.2.1.2.1 (by omega)
  have hf := hF t
  have hG2 : GG (zsI τ 0 39 n) := GG_39 hGt (by omega)
  refine s_use hG2 (by decide) ⟨n0, n1, n2⟩ (by omega) (by show zI τ 0 23 + 1 ≤ zI τ 0 5 ∧ zI τ 0 23 < 480; omega) (fun q => absurd q (by decide)) (fun υ hGu hPu hfu e23u hus => ?_)
  have u39 : zI υ 0 39 = n := hfu.1 39 (by decide)
  have u37 : zI υ 0 37 = zI τ 0 37 := hfu.1 37 (by decide)
  have u31 : zI υ 0 31 = zI τ 0 31 := hfu.1 31 (by decide)
  have u5 : zI υ 0 5 = zI τ 0 5 := hfu.1 5 (by decide)
  have u6 : zI υ 0 6 = zI τ 0 6 := hfu.1 6 (by decide)
  have u7 : zI υ 0 7 = zI τ 0 7 := hfu.1 7 (by decide)
  have u10 : zI υ 0 10 = zI τ 0 10 := hfu.1 10 (by decide)
  refine hQ 1 υ ⟨hGu, (hPt.tr (PR_op (by decide))).tr hPu, by omega, Or.inr rfl, by omega, by omega, by omega, by omega, by omega, ⟨fun _ _ => by rw [u39]; exact hus (Or.inl rfl), fun q => by omega⟩, fun _ => by omega⟩
theorem s_memory {σ : ZS} {Q : Int → ZS → Prop} (hG : GG σ) (hF : Fresh σ) (hQ : ∀ (r : Int) (τ : ZS), Opd σ r τ → (r = 1 → zI τ 0 37 = 2) → Q r τ) : wpX11_memoryOperand σ Q := by
  unfold wpX11_memoryOperand wpX11_memoryOperand_29
  have hG1 : GG (zsI (zsI (zsI (zsI (zsI σ 0 37 2) 0 38 0) 0 39 (-1)) 0 41 (-1)) 0 42 (-1)) := GG_42 (GG_41 (GG_39 (GG_38 (GG_37 hG (by decide)) (by decide)) (by decide)) (by decide)) (by decide)
  have hP1 : PR σ (zsI (zsI (zsI (zsI (zsI σ 0 37 2) 0 38 0) 0 39 (-1)) 0 41 (-1)) 0 42 (-1)) := (((PR_op (by decide)).tr (PR_op (by decide))).tr (PR_op (by decide))).tr ((PR_op (by decide)).tr (PR_op (by decide)))
  refine lfp2_ind (fun _ v2 τ => (zI σ 0 2 - zI τ 0 6).toNat + (if v2 = 0 then 0 else 1)) (fun v1 v2 τ => (0 ≤ v1 ∧ v1 ≤ 1) ∧ (0 ≤ v2 ∧ v2 ≤ 1) ∧ GG τ ∧ PR σ τ ∧ zI τ 0 31 = zI σ 0 31 ∧ zI τ 0 37 = 2 ∧ OpU τ ∧ Fresh τ) ?_ ⟨by decide, by decide, hG1, hP1, rfl, rfl, ⟨fun _ q => absurd (show (0 : Int) ≤ -1 from q) (by decide), fun q => absurd (show (4 : Int) ≤ 2 from q) (by decide)⟩, hF⟩
  intro P v1 v2 τ hI hP
  obtain ⟨b1, b2, hGt, hPt, e31, e37, hOt, hFt⟩ := hI
  have hLt := hGt.2.1
  obtain ⟨l1, l2, l3, l4, l5, l6, l7, l8, l9, l10, l11, l12, l13, l14, l15, l16, l17, l18, -⟩ := hLt
  have e2 : zI τ 0 2 = zI σ 0 2 := hPt.1.1 2 (by decide)
  have f55 : ∀ υ : ZS, GG υ → PR σ υ → zI υ 0 31 = zI σ 0 31 → wpX11_memoryOperand_55 υ Q := by
    intro υ g p e
    unfold wpX11_memoryOperand_55
    exact s_fault ⟨by decide, hQ 0 _ (Opd_fault g p e) (fun q => absurd q (by decide))⟩
  -- behind the part: the next token
  have f97 : ∀ υ : ZS, ¬ v2 = 0 → GG υ → PR σ υ → zI υ 0 31 = zI σ 0 31 → zI υ 0 37 = 2 → OpU υ → zI υ 0 7 ≠ 0 → zI τ 0 6 ≤ zI υ 0 6 → wpX11_memoryOperand_97 P υ Q := by
    intro υ hz g p e q37 o t0 s6
    unfold wpX11_memoryOperand_97
    refine s_nextG g (fun ω hGw hPw hfw _ s5 _ hFw => ?_)
    have w31 := hfw.1 31 (by decide); have w37 := hfw.1 37 (by decide); have w39 := hfw.1 39 (by decide); have w2 := hfw.1 2 (by decide)
    have hlt := g.2.2.1.2.1 t0
    have hLw := hGw.2.1
    obtain ⟨m1, m2, m3, -⟩ := hLw
    have p2 := p.1.1 2 (by decide)
    have f139 : ∀ s0 v : Int, (0 ≤ s0 ∧ s0 ≤ 1) → (0 ≤ v ∧ v ≤ 1) → wpX11_memoryOperand_139 P v s0 ω Q := by
      intro s0 v c1 c2
      unfold wpX11_memoryOperand_139
      refine ⟨by omega, fun q => ?_, fun q => ?_⟩
      · refine hP _ _ _ ⟨c1, c2, hGw, p.tr hPw, by omega, by omega, o.pr hPw w37 w39, hFw⟩ ?_
        rw [if_pos q, if_neg hz]
        omega
      · refine s_nextG hGw (fun ψ hGx hPx hfx _ x5 _ hFx => ?_)
        have x31 := hfx.1 31 (by decide); have x37 := hfx.1 37 (by decide); have x39 := hfx.1 39 (by decide); have x2 := hfx.1 2 (by decide)
        have hLx := hGx.2.1
        obtain ⟨n1, n2, -⟩ := hLx
        refine hP _ _ _ ⟨c1, c2, hGx, (p.tr hPw).tr hPx, by omega, by omega, (o.pr hPw w37 w39).pr hPx x37 x39, hFx⟩ ?_
        rw [if_neg q, if_neg hz]
        omega
    have f124 : ∀ v : Int, (0 ≤ v ∧ v ≤ 1) → wpX11_memoryOperand_124 P v ω Q := by
      intro v c2
      unfold wpX11_memoryOperand_124
      exact ⟨by omega, fun _ => f139 0 v (by decide) c2, fun _ => f139 1 v (by decide) c2⟩
    unfold wpX11_memoryOperand_119
    exact ⟨by omega, fun _ => f124 1 (by decide), fun _ => ⟨fun _ => f124 0 (by decide), fun _ => f124 1 (by decide)⟩⟩
  have f60 : ∀ υ : ZS, ¬ v2 = 0 → GG υ → PR σ υ → zI υ 0 31 = zI σ 0 31 → zI υ 0 37 = 2 → OpU υ → zI υ 0 7 ≠ 0 → zI τ 0 6 ≤ zI υ 0 6 → wpX11_memoryOperand_60 P v1 υ Q := by
    intro υ hz g p e q37 o t0 s6
    have hLu := g.2.1
    obtain ⟨m1, m2, m3, m4, m5, -⟩ := hLu
    unfold wpX11_memoryOperand_60 wpX11_memoryOperand_89
    exact ⟨by omega, fun _ => f97 υ hz g p e q37 o t0 s6, fun _ => ⟨by omega, fun _ => f97 _ hz (GG_38 g (by omega)) (p.tr (PR_op (by decide))) e q37 o t0 s6, fun _ => f97 _ hz (GG_38 g (by omega)) (p.tr (PR_op (by decide))) e q37 o t0 s6⟩⟩
  unfold wpbX11_memoryOperand_29
  refine ⟨by omega, fun _ => ?_, fun nv2 => ⟨by omega, fun z1 => ?_, fun z1 => ⟨by omega, fun t2 => f60 τ nv2 hGt hPt e31 e37 hOt (by omega) (by omega), fun _ => f55 τ hGt hPt e31⟩⟩⟩
  · refine s_take hGt (by decide) (fun υ hGu hPu hfu s5 s6 hFu => ⟨by decide, ?_⟩) ⟨by decide, hQ 0 _ (Opd_fault hGt hPt e31) (fun q => absurd q (by decide))⟩
    have u31 := hfu.1 31 (by decide); have u37 := hfu.1 37 (by decide); have u39 := hfu.1 39 (by decide)
    have h6 := hPt.2.1
    exact hQ 1 υ ⟨hGu, hPt.tr hPu, by omega, Or.inr rfl, fun _ => ⟨by omega, hOt.pr hPu u37 u39, hFu⟩⟩ (fun _ => by omega)
  · refine s_part hGt hFt e37 hOt (fun r υ hp => ?_)
    obtain ⟨g, p, q31, qr, q5, q6, q7, q10, q37, qo, q0⟩ := hp
    refine ⟨by omega, fun nr => f60 υ nv2 g (hPt.tr p) (by omega) q37 qo (by rw [q7]; exact q0 (by omega)) (by omega), fun _ => f55 υ g (hPt.tr p) (by omega)⟩
theorem zand_bd (a b : Int) : -2147483648 ≤ zand a b ∧ zand a b ≤ 2147483647 := by
  unfold zand
  have h1 := Int32.le_toInt (Int32.ofInt a &&& Int32.ofInt b)
  have h2 := Int32.toInt_lt (Int32.ofInt a &&& Int32.ofInt b)
  omega
theorem s_operand {σ : ZS} {a : Int} {Q : Int → ZS → Prop} (hG : GG σ) (hF : Fresh σ) (hQ : ∀ (r : Int) (τ : ZS), Opd σ r τ → (r = 1 → (zI τ 0 37 = 1 → ¬ zand a 2 = 0 ∨ ¬ zand a 4 = 0) ∧ (3 ≤ zI τ 0 37 → ¬ zand a 16 = 0)) → Q r τ) : wpX11_operand a σ Q := by
  have hL := hG.2.1
  have hL0 := hL
  obtain ⟨l1, l2, l3, l4, l5, l6, l7, l8, l9, l10, l11, l12, l13, l14, l15, l16, l17, l18, -⟩ := hL
  have c2 := zand_bd a 2; have c4 := zand_bd a 4; have c8 := zand_bd a 8; have c16 := zand_bd a 16
  have f114 : wpX11_operand_114 a σ Q := by
    unfold wpX11_operand_114
    refine ⟨c16, fun n => s_value hG hF (fun r τ hO h3 => ⟨by have := hO.2.2.2.1; omega, hQ r τ hO (fun q => ⟨fun q1 => by have := h3 q; omega, fun _ => n⟩)⟩), fun _ => s_fault ⟨by decide, hQ 0 _ (Opd_fault hG PR.rf rfl) (fun q => absurd q (by decide))⟩⟩
  have f89 : wpX11_operand_89 a σ Q := by
    unfold wpX11_operand_89
    refine ⟨by omega, fun _ => f114, fun t => ⟨c8, fun _ => f114, fun _ => s_nextG hG (fun υ g p f _ s5 _ hFu => s_memory g hFu (fun r τ hO h2 => ⟨by have := hO.2.2.2.1; omega, hQ r τ ⟨hO.1, p.tr hO.2.1, by have := hO.2.2.1; have := f.1 31 (by decide); omega, hO.2.2.2.1, fun q => ⟨?_, (hO.2.2.2.2 q).2⟩⟩ (fun q => ⟨fun q1 => by have := h2 q; omega, fun q1 => by have := h2 q; omega⟩)⟩))⟩⟩
    have h1 := p.2.1
    have h2 := (hO.2.2.2.2 q).1
    omega
  have f67 : zI σ 0 7 = 1 → (¬ zand a 2 = 0 ∨ ¬ zand a 4 = 0) → wpX11_operand_67 σ Q := by
    intro t hb
    unfold wpX11_operand_67
    refine s_nextG (GG_38 (GG_37 hG (by decide)) (by omega)) (fun υ g p f _ s5 _ hFu => ?_)
    have u37 : zI υ 0 37 = 1 := f.1 37 (by decide)
    have u31 : zI υ 0 31 = zI σ 0 31 := f.1 31 (by decide)
    have s5' : zI σ 0 5 ≤ zI υ 0 6 := s5
    have hlt := hG.2.2.1.2.1 (by omega)
    exact hQ 1 υ ⟨g, ((PR_op (by decide)).tr (PR_op (by decide))).tr p, u31, Or.inr rfl, fun _ => ⟨by omega, ⟨fun q => by omega, fun q => by omega⟩, hFu⟩⟩ (fun _ => ⟨fun _ => hb, fun q => by omega⟩)
  have f35 : wpX11_operand_35 a σ Q := by
    unfold wpX11_operand_35
    refine s_isWord hL0 (by decide) (fun t _ _ => ⟨by decide, fun q => absurd q (by decide), fun _ => ⟨c2, fun n => f67 t (Or.inl n), fun _ => ⟨c4, fun _ => f89, fun n => ⟨by omega, fun _ => f89, fun _ => f67 t (Or.inr n)⟩⟩⟩⟩) ⟨by decide, fun _ => f89, fun q => absurd rfl q⟩
  unfold wpX11_operand
  refine s_isWord hL0 (by decide) (fun t _ _ => ⟨by decide, fun q => absurd q (by decide), fun _ => ⟨fun _ => f35, fun _ => ?_⟩⟩) ⟨by decide, fun _ => f35, fun q => absurd rfl q⟩
  refine s_nextG (GG_38 (GG_37 hG (by decide)) (by omega)) (fun υ g p f _ s5 _ hFu => ?_)
  have u37 : zI υ 0 37 = 0 := f.1 37 (by decide)
  have u31 : zI υ 0 31 = zI σ 0 31 := f.1 31 (by decide)
  have s5' : zI σ 0 5 ≤ zI υ 0 6 := s5
  have hlt := hG.2.2.1.2.1 (by omega)
  exact hQ 1 υ ⟨g, ((PR_op (by decide)).tr (PR_op (by decide))).tr p, u31, Or.inr rfl, fun _ => ⟨by omega, ⟨fun q => by omega, fun q => by omega⟩, hFu⟩⟩ (fun _ => ⟨fun q => by omega, fun q => by omega⟩)
