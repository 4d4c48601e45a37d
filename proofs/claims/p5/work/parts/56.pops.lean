/-! P: operands -/
def OpU (σ : ZS) : Prop := (zI σ 0 37 = 2 → 0 ≤ zI σ 0 39 → hasUse σ (zI σ 0 39)) ∧ (4 ≤ zI σ 0 37 → 0 ≤ zI σ 0 39 ∧ hasUse σ (zI σ 0 39))
theorem OpU.pr {σ τ : ZS} (h : OpU σ) (k : PR σ τ) (e37 : zI τ 0 37 = zI σ 0 37) (e39 : zI τ 0 39 = zI σ 0 39) : OpU τ := by
  unfold OpU
  rw [e37, e39]
  exact ⟨fun a b => k.hasUse (h.1 a b), fun a => ⟨(h.2 a).1, k.hasUse (h.2 a).2⟩⟩
theorem s_emitValue {σ : ZS} {Q : ZS → Prop} (hG : GG σ) (hs : zI σ 0 33 = 1) (hp9 : zI σ 0 31 + 1 ≤ 2 * zI σ 0 6 + 8) (h3 : 3 ≤ zI σ 0 37) (hO : OpU σ) (hQ : ∀ τ : ZS, Em 1 σ τ → Q τ) : wpX11_emitValue σ Q := by
  have hL := hG.2.1
  obtain ⟨-, -, -, -, -, -, -, -, -, -, -, -, -, l14, l15, l16, -⟩ := hL
  unfold wpX11_emitValue wpX11_emitValue_36 wpX11_emitValue_45
  refine ⟨by omega, fun n3 => ⟨fun n4 => ?_, fun n4 => ?_⟩, fun n3 => ?_⟩
  · have ho := hO.2 (by omega)
    exact s_piece hG hs hp9 (by decide) (fun _ _ => by omega) (fun q => absurd q (by decide)) (by omega) (by decide) (by decide) (fun _ => ho.2) hQ
  · have ho := hO.2 (by omega)
    exact s_piece hG hs hp9 (by decide) (fun _ _ => by omega) (fun q => absurd q (by decide)) (by omega) (by decide) (by decide) (fun _ => ho.2) hQ
  · exact s_piece hG hs hp9 (by decide) (fun q => absurd q (by decide)) (fun q => absurd q (by decide)) (by omega) (by decide) (by decide) (fun q => absurd q (by decide)) hQ
theorem s_bits {σ : ZS} {Q : Int → ZS → Prop} (hL : GL σ) (hQ : ∀ b : Int, 0 ≤ b → b ≤ 7 → Q b σ) : wpX11_bits σ Q := by
  obtain ⟨-, -, -, -, -, -, -, -, -, -, -, -, -, -, -, -, l17, l18, -⟩ := hL
  unfold wpX11_bits wpX11_bits_102 wpX11_bits_73 wpX11_bits_36
  exact ⟨by omega, fun _ => ⟨fun _ => ⟨by omega, fun _ => ⟨fun _ => hQ _ (by decide) (by decide), fun _ => hQ _ (by decide) (by decide)⟩, fun _ => hQ _ (by decide) (by decide)⟩, fun _ => ⟨by omega, fun _ => ⟨fun _ => hQ _ (by decide) (by decide), fun _ => hQ _ (by decide) (by decide)⟩, fun _ => hQ _ (by decide) (by decide)⟩⟩, fun _ => ⟨by omega, fun _ => ⟨fun _ => hQ _ (by decide) (by decide), fun _ => hQ _ (by decide) (by decide)⟩, fun _ => hQ _ (by decide) (by decide)⟩⟩
theorem Em.up {a b : Int} {σ τ : ZS} (h : Em a σ τ) (hab : a ≤ b) : Em b σ τ := by
  obtain ⟨h1, h2, h3, h4, h5⟩ := h
  exact ⟨h1, h2, h3, h4, by omega⟩
theorem s_emitForm {σ : ZS} {k : Int} {Q : ZS → Prop} (hG : GG σ) (hs : zI σ 0 33 = 1) (hp9 : zI σ 0 31 + 2 ≤ 2 * zI σ 0 6 + 8) (h02 : zI σ 0 37 = 0 ∨ zI σ 0 37 = 2) (hk : -100 ≤ k ∧ k ≤ 1000009) (hO : OpU σ) (hQ : ∀ τ : ZS, Em 2 σ τ → Q τ) : wpX11_emitForm k σ Q := by
  have hL := hG.2.1
  have hL0 := hL
  obtain ⟨-, -, -, -, -, -, -, -, -, -, -, -, -, l14, l15, l16, l17, l18, -⟩ := hL
  have two : ∀ (b : Int) (R : ZS → Prop), -20000000 ≤ b ∧ b ≤ 20000000 → (∀ τ : ZS, Em 1 σ τ → zI τ 0 33 = 1 → zI τ 0 31 + 1 ≤ 2 * zI τ 0 6 + 8 → zI τ 0 38 = zI σ 0 38 → zI τ 0 39 = zI σ 0 39 → R τ) → wpX11_octet b σ R := by
    intro b R hb hR
    refine s_octet hG hs (by omega) hb (fun τ hE => hR τ hE ?_ ?_ ?_ ?_)
    · rw [hE.2.2.1.1 33 (by decide)]; exact hs
    · have := hE.2.2.2.2; rw [hE.2.2.1.1 6 (by decide)]; omega
    · exact hE.2.2.1.1 38 (by decide)
    · exact hE.2.2.1.1 39 (by decide)
  have f192 : ∀ v2 : Int, 0 ≤ v2 → v2 ≤ 7 → wpX11_emitForm_192 k v2 σ Q := by
    intro v2 b0 b1
    unfold wpX11_emitForm_192 wpX11_emitForm_217
    refine two _ _ (by omega) (fun τ hE s3 p3 e38 e39 => ?_)
    exact s_piece hE.1 s3 p3 (by decide) (fun q => absurd q (by decide)) (fun q => absurd q (by decide)) (by omega) (by decide) (by decide) (fun q => absurd q (by decide)) (fun υ hE2 => hQ υ (hE.tr hE2))
  have f152 : ∀ v2 v4 : Int, 0 ≤ v2 → v2 ≤ 7 → -100000 ≤ v4 → v4 ≤ 100000 → wpX11_emitForm_152 k v2 v4 σ Q := by
    intro v2 v4 b0 b1 c0 c1
    unfold wpX11_emitForm_152 wpX11_emitForm_217
    refine ⟨by omega, fun _ => f192 v2 b0 b1, fun _ => ⟨fun _ => f192 v2 b0 b1, fun _ => ?_⟩⟩
    refine two _ _ (by omega) (fun τ hE s3 p3 e38 e39 => ?_)
    exact s_octet hE.1 s3 p3 (by omega) (fun υ hE2 => hQ υ (hE.tr hE2))
  have f80 : ∀ v2 s1 : Int, 0 ≤ v2 → v2 ≤ 7 → 0 ≤ s1 → s1 ≤ 128 → zI σ 0 37 = 2 → wpX11_emitForm_80 k v2 s1 σ Q := by
    intro v2 s1 b0 b1 c0 c1 h2
    unfold wpX11_emitForm_80 wpX11_emitForm_217
    refine two _ _ (by omega) (fun τ hE s3 p3 e38 e39 => ?_)
    refine ⟨by omega, fun _ => ?_, fun q => ?_⟩
    · exact s_piece hE.1 s3 p3 (by decide) (fun q => absurd q (by decide)) (fun q => absurd q (by decide)) (by omega) (by decide) (by decide) (fun q => absurd q (by decide)) (fun υ hE2 => hQ υ (hE.tr hE2))
    · exact s_piece hE.1 s3 p3 (by decide) (fun _ _ => by omega) (fun q => absurd q (by decide)) (by omega) (by omega) (by decide) (fun _ => by rw [e39]; exact hE.2.1.hasUse (hO.1 h2 (by omega))) (fun υ hE2 => hQ υ (hE.tr hE2))
  have f68 : ∀ v2 v3 : Int, 0 ≤ v2 → v2 ≤ 7 → 0 ≤ v3 → v3 ≤ 1 → zI σ 0 37 = 2 → wpX11_emitForm_68 k v2 v3 σ Q := by
    intro v2 v3 b0 b1 c0 c1 h2
    unfold wpX11_emitForm_68
    exact ⟨by omega, fun _ => f80 v2 128 b0 b1 (by decide) (by decide) h2, fun _ => f80 v2 0 b0 b1 (by decide) (by decide) h2⟩
  have f49 : ∀ v2 s0 : Int, 0 ≤ v2 → v2 ≤ 7 → 0 ≤ s0 → s0 ≤ 1 → zI σ 0 37 = 2 → wpX11_emitForm_49 k v2 s0 σ Q := by
    intro v2 s0 b0 b1 c0 c1 h2
    unfold wpX11_emitForm_49 wpX11_emitForm_217
    refine ⟨by omega, fun _ => f68 v2 s0 b0 b1 c0 c1 h2, fun _ => ⟨by omega, fun _ => ⟨fun _ => f152 _ _ b0 b1 (by omega) (by omega), fun _ => ⟨by omega, fun _ => f152 _ _ b0 b1 (by omega) (by omega), fun _ => ?_⟩⟩, fun _ => f68 v2 s0 b0 b1 c0 c1 h2⟩⟩
    exact s_octet hG hs (by omega) (by omega) (fun υ hE2 => hQ υ (hE2.up (by decide)))
  unfold wpX11_emitForm wpX11_emitForm_48
  refine ⟨by omega, fun n0 => s_bits hL0 (fun b b0 b1 => ?_), fun _ => s_octet hG hs (by omega) (by omega) (fun υ hE2 => hQ υ (hE2.up (by decide)))⟩
  have h2 : zI σ 0 37 = 2 := by omega
  exact ⟨by omega, fun _ => f49 b 0 b0 b1 (by decide) (by decide) h2, fun _ => ⟨by omega, fun _ => f49 b 0 b0 b1 (by decide) (by decide) h2, fun _ => f49 b 1 b0 b1 (by decide) (by decide) h2⟩⟩
/-- an operand was read, or not -/
def Opd (σ : ZS) (r : Int) (τ : ZS) : Prop := GG τ ∧ PR σ τ ∧ zI τ 0 31 = zI σ 0 31 ∧ (r = 0 ∨ r = 1) ∧ (r = 1 → zI σ 0 6 + 1 ≤ zI τ 0 6 ∧ OpU τ ∧ Fresh τ)
theorem Opd_fault {σ τ : ZS} (h : GG τ) (hr : PR σ τ) (e : zI τ 0 31 = zI σ 0 31) : Opd σ 0 (zsI (zsI τ 0 3 1) 0 4 (zI τ 0 6)) := ⟨GG_34 h, hr.tr PR_fault, e, Or.inl rfl, fun q => absurd q (by decide)⟩
theorem s_value50 {σ : ZS} {Q : Int → ZS → Prop} (hG : GG σ) (hF : Fresh σ) (h4 : 4 ≤ zI σ 0 37) (hQ : ∀ (r : Int) (τ : ZS), Opd σ r τ → (r = 1 → zI τ 0 37 = zI σ 0 37) → Q r τ) : wpX11_value_50 σ Q := by
  have hL := hG.2.1
  unfold wpX11_value_50
  refine s_isName hL (fun t c => ⟨by decide, fun _ => ?_, fun q => absurd q (by decide)⟩) ⟨by decide, fun q => absurd rfl q, fun _ => s_fault ⟨by decide, hQ _ _ (Opd_fault hG PR.rf rfl) (fun q => absurd q (by decide))⟩⟩
  refine s_name hG t hF (fun n τ n0 n1 n2 hGt hPt hft => ?_)
  have hLt := hGt.2.1
  obtain ⟨l1, l2, l3, l4, l5, l6, l7, l8, -⟩ := hLt
  have e6 := hft.1 6 (by decide); have e5 := hft.1 5 (by decide); have e23 := hft.1 23 (by decide); have e7 := hft.1 7 (by decide); have e37 := hft.1 37 (by decide); have e31 := hft.1 31 (by decide)
  have hlt := hG.2.2.1.2.1 (by omega)
  have hf := hF t
  have hG2 : GG (zsI (zsI τ 0 39 n) 0 40 (zI τ 0 6)) := GG_40 (GG_39 hGt (by omega))
  refine s_use hG2 (by decide) ⟨n0, n1, n2⟩ (by omega) (by show zI τ 0 23 + 1 ≤ zI τ 0 5 ∧ zI τ 0 23 < 480; omega) (fun q => absurd q (by decide)) (fun υ hGu hPu hfu e23u hus => ?_)
  refine s_nextG hGu (fun ω hGw hPw hfw _ s5 _ hFw => ?_)
  have u39 : zI υ 0 39 = n := hfu.1 39 (by decide)
  have u37 : zI υ 0 37 = zI τ 0 37 := hfu.1 37 (by decide)
  have u31 : zI υ 0 31 = zI τ 0 31 := hfu.1 31 (by decide)
  have u5 : zI υ 0 5 = zI τ 0 5 := hfu.1 5 (by decide)
  have w39 := hfw.1 39 (by decide); have w37 := hfw.1 37 (by decide); have w31 := hfw.1 31 (by decide)
  refine hQ 1 ω ⟨hGw, (hPt.tr (PR.tr (PR_op (by decide)) (PR_op (by decide)))).tr (hPu.tr hPw), by omega, Or.inr rfl, fun _ => ⟨by omega, ?_, hFw⟩⟩ (fun _ => by omega)
  refine ⟨fun q => by omega, fun _ => ?_⟩
  rw [w39, u39]
  exact ⟨n0, hPw.hasUse (hus (Or.inl rfl))⟩
theorem s_value {σ : ZS} {Q : Int → ZS → Prop} (hG : GG σ) (hF : Fresh σ) (hQ : ∀ (r : Int) (τ : ZS), Opd σ r τ → (r = 1 → 3 ≤ zI τ 0 37) → Q r τ) : wpX11_value σ Q := by
  have hL := hG.2.1
  obtain ⟨l1, l2, l3, l4, l5, -⟩ := hL
  have hG3 : GG (zsI (zsI σ 0 37 3) 0 38 (zI σ 0 10)) := GG_38 (GG_37 hG (by decide)) (by omega)
  have hP3 : PR σ (zsI (zsI σ 0 37 3) 0 38 (zI σ 0 10)) := PR.tr (PR_op (by decide)) (PR_op (by decide))
  unfold wpX11_value
  refine ⟨by omega, fun n2 => ⟨fun n64 => ?_, fun n64 => ?_⟩, fun n2 => ?_⟩
  · refine s_value50 (GG_37 hG3 (by decide)) hF (by show (4 : Int) ≤ 4; decide) (fun r τ hO he => hQ r τ ⟨hO.1, (hP3.tr (PR_op (by decide))).tr hO.2.1, hO.2.2.1, hO.2.2.2.1, hO.2.2.2.2⟩ (fun q => ?_))
    have h4 : zI τ 0 37 = 4 := he q
    omega
  · refine s_nextG (GG_37 (GG_37 hG3 (by decide)) (by decide)) (fun υ hGu hPu hfu _ s5 _ hFu => ?_)
    have u37 : zI υ 0 37 = 5 := hfu.1 37 (by decide)
    have u31 : zI υ 0 31 = zI σ 0 31 := hfu.1 31 (by decide)
    refine s_value50 hGu hFu (by omega) (fun r τ hO he => hQ r τ ⟨hO.1, ((hP3.tr (PR_op (by decide))).tr (PR_op (by decide))).tr (hPu.tr hO.2.1), by have := hO.2.2.1; omega, hO.2.2.2.1, fun q => ?_⟩ (fun q => by have := he q; omega))
    have h2 := hPu.2.1
    have h2' : zI σ 0 6 ≤ zI υ 0 6 := h2
    have := (hO.2.2.2.2 q).1
    exact ⟨by omega, (hO.2.2.2.2 q).2⟩
  · refine s_nextG hG3 (fun υ hGu hPu hfu _ s5 _ hFu => ?_)
    have u37 : zI υ 0 37 = 3 := hfu.1 37 (by decide)
    have u31 : zI υ 0 31 = zI σ 0 31 := hfu.1 31 (by decide)
    have s5' : zI σ 0 5 ≤ zI υ 0 6 := s5
    have hlt := hG.2.2.1.2.1 (by omega)
    exact hQ 1 υ ⟨hGu, hP3.tr hPu, u31, Or.inr rfl, fun _ => ⟨by omega, ⟨fun q => by omega, fun q => by omega⟩, hFu⟩⟩ (fun _ => by omega)
