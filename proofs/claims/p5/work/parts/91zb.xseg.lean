/-! X: directives on both sides -/
/-- the reference's directive does the same, from its word on -/
def TSd (h : Int → Int) (L : Int) (E M : Int → Int) (σ τ : ZS) (x : Int) (W : ZS → (Int → ZS → Prop) → Prop) : Prop := ∀ (ρ : ZS) (Qr : Int → ZS → Prop), SY h L E σ (zI σ 14 4) ρ → RB σ ρ (M (zI σ 14 4)) [] → Itm ρ → (x = 1 → ∀ ρ' : ZS, SY h L E τ (zI τ 14 4) ρ' → RB τ ρ' (M (zI τ 14 4)) [] → Fresh ρ' → PR ρ ρ' → zI ρ' 0 31 ≤ 2 * zI ρ' 0 6 → Qr 1 ρ') → (x = 0 → ∀ ρ' : ZS, GG ρ' → PR ρ ρ' → Qr 0 ρ') → W ρ Qr
theorem TSi.d {h : Int → Int} {L x : Int} {E M : Int → Int} {σ τ : ZS} {W : ZS → (Int → ZS → Prop) → Prop} (k : TSi h L E M σ τ x W) : TSd h L E M σ τ x W := fun ρ Qr a b c h1 h0 => k ρ Qr a b c.2.1 c.2.2.1 h1 h0
theorem r_nextP {h : Int → Int} {L i m : Int} {E M : Int → Int} {σ ρ : ZS} {d : YD} {pend : List Int} {Q : ZS → Prop} (hC : CT h L E M σ) (i0 : 0 ≤ i) (i1 : i < zI σ 12 3) (hS : SY h L E σ i ρ) (hB : RBd σ d ρ m pend) (hn : zA σ 12 0 i ≠ 0) (hQ : ∀ τ : ZS, SY h L E σ (i + 1) τ → RBd σ d τ m pend → Fresh τ → fr [5, 6, 7, 8, 9, 10] [] ρ τ → PR ρ τ → zI ρ 0 6 + 1 ≤ zI τ 0 6 → zI ρ 0 5 ≤ zI τ 0 6 → (zI ρ 0 7 = 1 → zI τ 0 7 = 1 ∨ zI τ 0 7 = 2 → zI ρ 0 5 + 1 ≤ zI τ 0 6) → Q τ) : wpX11_next ρ Q := by
  have hG := hB.1
  refine s_nextG hG (fun τ g pr f nx s5 sp fs => ?_)
  have hi := hC.on i0 i1 hn
  have hlt := hG.2.2.1.2.1 (fun q => hn (hS.2.2.2.2.f.1.mpr q))
  exact hQ τ (SY_nxt hC.1.2.1 (by omega) hi hS.1 hS.2.1 hG.1.2.2 hC.2 hS.2.2.1 nx) (hB.fr g f) fs f pr (by omega) s5 sp
theorem r_use0 {h : Int → Int} {L i m n p : Int} {E : Int → Int} {σ ρ : ZS} {d : YD} {Q : ZS → Prop} (hS : SY h L E σ i ρ) (hB : RBd σ d ρ m []) (hn : 0 ≤ n ∧ n < 240 ∧ n < zI ρ 0 17) (hp : 0 ≤ p ∧ p ≤ 480) (hu : zI ρ 0 23 + 1 ≤ zI ρ 0 5 ∧ zI ρ 0 23 < 480) (hc : 7 * (cntP (zA ρ 0 19) (zI ρ 0 23).toNat + 1) ≤ zI ρ 0 5) (hQ : ∀ τ : ZS, SY h L E σ i τ → RBd σ (yU d 0 n) τ m [] → fr [23] [19, 20, 21, 22] ρ τ → PR ρ τ → zI τ 0 23 = zI ρ 0 23 + 1 → Q τ) : wpX11_use 0 n p ρ Q := by
  obtain ⟨hG, b1, b3, b4⟩ := hB
  refine x_use hG (by omega) hn hp hu (fun _ => hc) (fun τ g pr f hs hx => ?_)
  refine hQ τ (hS.fr f (by decide) (by decide) (by decide) (by decide) (by decide) (by decide) (by decide) (by decide)) ⟨g, ?_, ?_, fun q => ?_⟩ f pr hx.1
  · rw [f.1 17 (by decide), f.2 12 (by decide)]; exact b1
  · rw [f.1 33 (by decide)]; exact b3
  · obtain ⟨c1, c2, c3⟩ := b4 q
    exact ⟨(c1.k (f.2 13 (by decide)) (f.2 14 (by decide)) (f.2 15 (by decide)) (f.2 35 (by decide)) (f.1 34 (by decide)) (f.1 32 (by decide)) (f.1 18 (by decide)) : YN τ m d), (c2.k (f.1 31 (by decide)) (f.2 24 (by decide)) (f.2 25 (by decide)) (f.2 26 (by decide)) (f.2 28 (by decide)) : YP τ d), c3.add (by have := hG.2.1.2.2.2.2.2.2.2.1; omega) hx c1.2.2.2.2.1⟩
/-- what stands behind the name of a directive -/
def Dn (h : Int → Int) (L : Int) (E M : Int → Int) (σ ρ b δ : ZS) (n : Int) : Prop := SY h L E σ (zI σ 14 4 + 1 + 1) δ ∧ RBd σ (yS σ) δ (M (zI σ 14 4 + 1 + 1)) [] ∧ Fresh δ ∧ PR ρ δ ∧ zI δ 0 31 + 4 ≤ 2 * zI δ 0 6 ∧ (0 ≤ n ∧ n < 240 ∧ n < zI δ 0 17) ∧ (0 ≤ zI b 0 6 ∧ zI b 0 6 ≤ 480) ∧ (zI ρ 0 9 = 12 → zI δ 0 7 = 2 → zI δ 0 34 < 80 ∧ 6 * (zI δ 0 34 + 1) ≤ zI δ 0 5) ∧ (zI ρ 0 9 = 13 → 7 * (cntP (zA δ 0 19) (zI δ 0 23).toNat + 1) ≤ zI δ 0 5) ∧ (zI δ 0 23 + 1 ≤ zI δ 0 6 ∧ zI δ 0 23 < 480)
theorem r_dir {h : Int → Int} {L : Int} {E M : Int → Int} {σ ρ : ZS} {Qr : Int → ZS → Prop} (hP : PS σ) (hC : CT h L E M σ) (t6 : zA σ 12 0 (zI σ 14 4) = 6) (w2 : zA σ 12 1 (zI σ 14 4) ≤ 2) (hS : SY h L E σ (zI σ 14 4) ρ) (hB : RB σ ρ (M (zI σ 14 4)) []) (hI : Itm ρ) (h3 : zA σ 12 0 (zI σ 14 4 + 1) = 3 → ∀ b δ : ZS, Dn h L E M σ ρ b δ (zA σ 12 1 (zI σ 14 4 + 1)) → (¬ zI ρ 0 9 = 13 → wpX11_directive_60 (zI ρ 0 9) (zA σ 12 1 (zI σ 14 4 + 1)) (zI b 0 6) δ Qr) ∧ (zI ρ 0 9 = 13 → wpX11_use 0 (zA σ 12 1 (zI σ 14 4 + 1)) (zI b 0 6) δ (fun σ39 => wpX11_directive_60 (zI ρ 0 9) (zA σ 12 1 (zI σ 14 4 + 1)) (zI b 0 6) σ39 Qr))) (h0 : zA σ 12 0 (zI σ 14 4 + 1) ≠ 3 → ∀ ρ' : ZS, GG ρ' → PR ρ ρ' → Qr 0 ρ') : wpX11_directive ρ Qr := by
  have i0 := hP.2.2.1.1
  have i1 : zI σ 14 4 < zI σ 12 3 := by have := hP.2.2.1; omega
  have j1 := hC.on i0 i1 (show zA σ 12 0 (zI σ 14 4) ≠ 0 by omega)
  obtain ⟨hG, hF, hp, h6, h7⟩ := hI
  have hL := hG.2.1
  obtain ⟨l1, l2, l3, l4, l5, l6, l7, l8, l9, l10, -⟩ := hL
  have T := hS.2.2.2.2.f.2.2.2.2.2.2.2.2.1.mp t6
  have Tv := (hS.2.2.2.2.f.2.2.2.2.2.2.2.2.2.1 t6).1
  have ht := T.1
  have hlt := hG.2.2.1.2.1 (by omega)
  have h12 := hG.2.2.1.2.2.1 ht
  have h13 := hG.2.2.1.2.2.2.1 ht
  unfold wpX11_directive
  refine r_nextP hC i0 i1 hS hB.d (by omega) (fun a aS aB aF fa pa a6 a5 asep => ?_)
  have a31 := fa.1 31 (by decide); have a34 := fa.1 34 (by decide); have a23 := fa.1 23 (by decide); have a19 := fa.2 19 (by decide)
  have aB' : RB σ a (M (zI σ 14 4 + 1)) [] := by rw [hC.m1 i0 i1 (by omega)]; exact aB
  refine ⟨by omega, fun c15 => r_isName aB.1.2.1 aS (fun t3 => ⟨by decide, fun _ => ?_, fun q => absurd q (by decide)⟩) (fun t3 => ⟨by decide, fun q => absurd rfl q, fun _ => s_fault ⟨by decide, h0 t3 _ (GG_34 aB.1) (pa.tr PR_fault)⟩⟩), fun q => absurd q (by omega)⟩
  have t1 := (aS.2.2.2.2.f.2.2.2.1.mp t3).1
  have ga := aB.1
  have hLa := ga.2.1
  obtain ⟨k1, k2, k3, k4, k5, k6, k7, k8, k9, k10, -⟩ := hLa
  refine r_name hC (by omega) j1 aS aB' aF t3 (fun b bS bB fb pb bn => ?_)
  have b5 := fb.1 5 (by decide); have b6 := fb.1 6 (by decide); have b7 := fb.1 7 (by decide); have b31 := fb.1 31 (by decide); have b34 := fb.1 34 (by decide); have b23 := fb.1 23 (by decide); have b19 := fb.2 19 (by decide)
  refine r_nextP hC (by omega) j1 bS bB.d (by omega) (fun d dS dB dF fd pd d6 d5 dsep => h3 t3 b d ?_)
  have d31 := fd.1 31 (by decide); have d34 := fd.1 34 (by decide); have d23 := fd.1 23 (by decide); have d19 := fd.2 19 (by decide); have d17 := fd.1 17 (by decide)
  have hLd := dB.1.2.1
  obtain ⟨m1, m2, m3, m4, m5, m6, m7, m8, -⟩ := hLd
  have sepA := asep ht (Or.inl t1)
  have alt := ga.2.2.1.2.1 (by omega)
  have fF := aF t1
  refine ⟨dS, dB, dF, pa.tr (pb.tr pd), by omega, by omega, by omega, fun c t2 => ?_, fun c => ?_, by omega⟩
  · have q3 := h12 c
    have sepD := dsep (by omega) (Or.inr t2)
    omega
  · have q6 := h13 c
    rw [d19, d23, b19, b23, a19, a23]
    omega
/-- names shown, names from elsewhere -/
theorem t_decl {h : Int → Int} {L t : Int} {E M : Int → Int} {σ : ZS} {Q : Int → ZS → Prop} (hP : PS σ) (hC : CT h L E M σ) (hz : 2 * zI σ 13 7 ≤ zA σ 12 2 (zI σ 14 4)) (t6 : zA σ 12 0 (zI σ 14 4) = 6) (hw : (zA σ 12 1 (zI σ 14 4) = 1 ∧ t = 2) ∨ (zA σ 12 1 (zI σ 14 4) = 2 ∧ t = 3)) (hQ : ∀ (x : Int) (τ : ZS), CSi σ τ x → TSd h L E M σ τ x wpX11_directive → Q x τ) : wpX8_named t 0 (zsI σ 14 4 (zI σ 14 4 + 1)) Q := by
  have on : PG σ (zsI σ 14 4 (zI σ 14 4 + 1)) := (PG.rf hP).on (by omega)
  have i0 := hP.2.2.1.1
  have i1 : zI σ 14 4 < zI σ 12 3 := by have := hP.2.2.1; omega
  have j1 := hC.on i0 i1 (show zA σ 12 0 (zI σ 14 4) ≠ 0 by omega)
  have pb := hP.tk.2.2.1
  have p1 := (hC.pl i0 i1 (show zA σ 12 0 (zI σ 14 4) ≠ 0 by omega)).2 (Or.inr (Or.inr t6))
  have qa : zI (zsI σ 14 4 (zI σ 14 4 + 1)) 14 4 = zI σ 14 4 + 1 := zI_s
  have q11 : ob (zsI σ 14 4 (zI σ 14 4 + 1)) 11 = ob σ 11 := ob_i (by decide)
  have q12 : ob (zsI σ 14 4 (zI σ 14 4 + 1)) 12 = ob σ 12 := ob_i (by decide)
  have q13 : yS (zsI σ 14 4 (zI σ 14 4 + 1)) = yS σ := yS.k (ob_i (by decide))
  have hz1 : zI (zsI σ 14 4 (zI σ 14 4 + 1)) 13 7 < 248 := by
    show zI σ 13 7 < 248
    omega
  refine x_named on.1 (fun q => by omega) (by omega) (by decide) ⟨fun q => by omega, fun q => by omega⟩ (by omega) hz1 (fun t3 τ pg ta ts t11 t12 ty => hQ 1 τ ⟨by decide, pg.1, on.2.1.tr pg.2.1, fun _ => ?_⟩ (fun ρ Qr rS rB rI h1 h0 => ?_)) (fun t3 => hQ 0 _ ⟨by decide, on.1, on.2.1, fun q => absurd q (by decide)⟩ (fun ρ Qr rS rB rI h1 h0 => ?_))
  · have t3' : zA σ 12 0 (zI σ 14 4 + 1) = 3 := by rw [qa] at t3; exact t3
    have p2 := (hC.pl (i := zI σ 14 4 + 1) (by omega) j1 (by omega)).1
    rw [ta, qa]
    have ts' : zI τ 13 7 = zI σ 13 7 + 1 := ts
    omega
  · have t3' : zA σ 12 0 (zI σ 14 4 + 1) = 3 := by rw [qa] at t3; exact t3
    rw [q13, qa] at ty
    rw [qa] at ta
    have Tv := (rS.2.2.2.2.f.2.2.2.2.2.2.2.2.2.1 t6).1
    refine r_dir hP hC t6 (by omega) rS rB rI (fun _ b δ dn => ?_) (fun q => absurd t3' q)
    obtain ⟨dS, dB, dF, dp, d31, dn', db, -, d7, du⟩ := dn
    have done : ∀ ρ' : ZS, SY h L E σ (zI σ 14 4 + 1 + 1) ρ' → RBd σ (yI (yS σ) t 0 (zA σ 12 1 (zI σ 14 4 + 1))) ρ' (M (zI σ 14 4 + 1 + 1)) [] → Fresh ρ' → PR ρ ρ' → zI ρ' 0 31 ≤ 2 * zI ρ' 0 6 → wpX11_directive_90 (zI ρ 0 9) (zA σ 12 1 (zI σ 14 4 + 1)) (zI b 0 6) ρ' Qr := by
      intro ρ' s1 s2 s3 s4 s5
      unfold wpX11_directive_90
      refine ⟨by omega, fun q => by omega, fun _ => h1 rfl ρ' ?_ ?_ s3 s4 s5⟩
      · rw [ta]; exact s1.k (t11.trans q11) (t12.trans q12)
      · rw [ta]; exact s2.b (t11.trans q11) (on.tr pg).2.2 ty
    rcases hw with ⟨w, et⟩ | ⟨w, et⟩
    · refine ⟨fun q => by omega, fun c13 => ?_⟩
      have y6 := dB.1.2.1.2.1
      refine r_use0 dS dB dn' db (by omega) (d7 c13) (fun υ uS uB uf up u23 => ?_)
      have u6 := uf.1 6 (by decide); have u31 := uf.1 31 (by decide); have u7 := uf.1 7 (by decide); have u17 := uf.1 17 (by decide)
      unfold wpX11_directive_60
      refine ⟨by omega, fun _ => done υ uS (by rw [et]; exact uB) (fun q => ?_) (dp.tr up) (by omega), fun q => by omega⟩
      have := dF (by omega)
      omega
    · refine ⟨fun _ => ?_, fun q => by omega⟩
      have so := (dB.1.2.2.2.2.2.1 _ dn'.1 dn'.2.1).1
      unfold wpX11_directive_60
      refine ⟨by omega, fun q => by omega, fun _ => ⟨⟨dn'.1, dn'.2.1⟩, by omega, ?_⟩⟩
      refine r_ext (Q := fun σ24 => wpX11_directive_90 (zI ρ 0 9) (zA σ 12 1 (zI σ 14 4 + 1)) (zI b 0 6) σ24 Qr) dB dn' db (fun υ uB uf up => ?_)
      refine done υ (dS.fr uf (by decide) (by decide) (by decide) (by decide) (by decide) (by decide) (by decide) (by decide)) (by rw [et]; exact uB) ?_ (dp.tr up) ?_
      · intro q
        rw [uf.1 7 (by decide)] at q
        rw [uf.1 17 (by decide), uf.1 6 (by decide), uf.1 23 (by decide)]
        exact dF q
      · rw [uf.1 31 (by decide), uf.1 6 (by decide)]; omega
  · rw [qa] at t3
    have Tv := (rS.2.2.2.2.f.2.2.2.2.2.2.2.2.2.1 t6).1
    exact r_dir hP hC t6 (by omega) rS rB rI (fun q => absurd q t3) (fun _ => h0 rfl)
/-- seg -/
theorem t_seg {h : Int → Int} {L : Int} {E M : Int → Int} {σ : ZS} {Q : Int → ZS → Prop} (hP : PS σ) (hC : CT h L E M σ) (hz : 2 * zI σ 13 7 ≤ zA σ 12 2 (zI σ 14 4)) (t6 : zA σ 12 0 (zI σ 14 4) = 6) (hw : zA σ 12 1 (zI σ 14 4) = 0) (hQ : ∀ (x : Int) (τ : ZS), CSi σ τ x → TSd h L E M σ τ x wpX11_directive → Q x τ) : wpX8_seg (zsI σ 14 4 (zI σ 14 4 + 1)) Q := by
  have on : PG σ (zsI σ 14 4 (zI σ 14 4 + 1)) := (PG.rf hP).on (by omega)
  have i0 := hP.2.2.1.1
  have i1 : zI σ 14 4 < zI σ 12 3 := by have := hP.2.2.1; omega
  have j1 := hC.on i0 i1 (show zA σ 12 0 (zI σ 14 4) ≠ 0 by omega)
  have pb := hP.tk.2.2.1
  have p1 := (hC.pl i0 i1 (show zA σ 12 0 (zI σ 14 4) ≠ 0 by omega)).2 (Or.inr (Or.inr t6))
  obtain ⟨σ1, hσ1⟩ : ∃ τ, τ = zsI σ 14 4 (zI σ 14 4 + 1) := ⟨_, rfl⟩
  rw [← hσ1] at on ⊢
  have qa : zI σ1 14 4 = zI σ 14 4 + 1 := by rw [hσ1]; exact zI_s
  have q11 : ob σ1 11 = ob σ 11 := by rw [hσ1]; exact ob_i (by decide)
  have q12 : ob σ1 12 = ob σ 12 := by rw [hσ1]; exact ob_i (by decide)
  have q13 : ob σ1 13 = ob σ 13 := by rw [hσ1]; exact ob_i (by decide)
  clear hσ1
  have A : ∀ f : Nat, zA σ1 12 f = zA σ 12 f := fun f => ob_A q12 f
  have tk := on.1.tk
  rw [A, A, A, qa] at tk
  obtain ⟨t1, t2, t3, t4⟩ := tk
  have hat := on.1.at
  unfold wpX8_seg wpX8_seg_33
  refine c_take on.1 (by decide) (fun e p => ⟨by decide, fun _ => ?_, fun q => absurd q (by decide)⟩) (fun ne => ⟨by decide, fun q => absurd rfl q, fun _ => hQ 0 σ1 ⟨by decide, on.1, on.2.1, fun q => absurd q (by decide)⟩ (fun ρ Qr rS rB rI h1 h0 => ?_)⟩)
  rotate_left
  · rw [A, qa] at ne
    exact r_dir hP hC t6 (by omega) rS rB rI (fun q => absurd q ne) (fun _ => h0 rfl)
  rw [A, qa] at e
  have on2 := on.on (show zA σ1 12 0 (zI σ1 14 4) ≠ 0 by rw [A, qa]; omega)
  obtain ⟨σ2, hσ2⟩ : ∃ τ, τ = zsI σ1 14 4 (zI σ1 14 4 + 1) := ⟨_, rfl⟩
  rw [← hσ2] at on2 p ⊢
  have ra : zI σ2 14 4 = zI σ 14 4 + 1 + 1 := by rw [hσ2, zI_s, qa]
  have r11 : ob σ2 11 = ob σ 11 := by rw [hσ2]; exact (ob_i (by decide)).trans q11
  have r12 : ob σ2 12 = ob σ 12 := by rw [hσ2]; exact (ob_i (by decide)).trans q12
  have r13 : ob σ2 13 = ob σ 13 := by rw [hσ2]; exact (ob_i (by decide)).trans q13
  have B : ∀ f : Nat, zA σ2 12 f = zA σ 12 f := fun f => ob_A r12 f
  clear hσ2
  have t4' := t4 e
  have tk2 := p.tk
  rw [B, B, B, ra] at tk2
  obtain ⟨s1, s2, s3, s4⟩ := tk2
  have k1 := hC.on (i := zI σ 14 4 + 1) (by omega) j1 (by omega)
  have p2 := (hC.pl (i := zI σ 14 4 + 1) (by omega) j1 (by omega)).1
  -- the reference behind its name, where the class fails
  have fail : ¬ (zA σ 12 0 (zI σ 14 4 + 1 + 1) = 2 ∧ al (zA σ 12 1 (zI σ 14 4 + 1 + 1))) → Q 0 σ2 := by
    intro nal
    refine hQ 0 σ2 ⟨by decide, p, on2.2.1, fun q => absurd q (by decide)⟩ (fun ρ Qr rS rB rI h1 h0 => ?_)
    have Tv := (rS.2.2.2.2.f.2.2.2.2.2.2.2.2.2.1 t6).1
    refine r_dir hP hC t6 (by omega) rS rB rI (fun _ b δ dn => ⟨fun _ => ?_, fun q => by omega⟩) (fun q => absurd e q)
    obtain ⟨dS, dB, dF, dp, d31, dn', db, dsg, -, du⟩ := dn
    have T2 := dS.2.2.2.2.f.2.1
    have T2v := dS.2.2.2.2.f.2.2.1
    have l7 := dB.1.2.1.2.2.1
    have l10 := dB.1.2.1.2.2.2.2.1
    have bad : wpX11_directive_148 δ Qr := by
      unfold wpX11_directive_148
      exact s_fault ⟨by decide, h0 rfl _ (GG_34 dB.1) (dp.tr PR_fault)⟩
    unfold wpX11_directive_60 wpX11_directive_90
    have no : ∀ v : Int, al v → zI δ 0 7 = 2 → ¬ zI δ 0 10 = v := fun v hv q q' => nal ⟨T2.mpr q, by rw [← T2v (T2.mpr q), q']; exact hv⟩
    clear T2 T2v
    refine ⟨by omega, fun _ => ⟨by omega, fun _ => ⟨by omega, fun _ => bad, fun q => ⟨by omega, fun y => absurd y (no 1 (by unfold al; omega) q), fun _ => ⟨fun y => absurd y (no 2 (by unfold al; omega) q), fun _ => ⟨fun y => absurd y (no 4 (by unfold al; omega) q), fun _ => ⟨fun y => absurd y (no 8 (by unfold al; omega) q), fun _ => ⟨fun y => absurd y (no 16 (by unfold al; omega) q), fun _ => bad⟩⟩⟩⟩⟩⟩, fun q => by omega⟩, fun q => by omega⟩
  refine c_type p ⟨?_, fun n2 => fail (fun q => n2 (by rw [B, ra]; exact q.1)), fun e2 => c_value p (c_isAlign ?_ (fun a => ⟨by decide, fun _ => c_value p ?_, fun q => absurd q (by decide)⟩) (fun na => ⟨by decide, fun q => absurd rfl q, fun _ => fail (fun q => na (by rw [B, ra]; exact q.2))⟩))⟩
  · rw [B, ra]; omega
  · rw [B, ra]; exact s2
  rw [B, ra] at e2 a
  have hN5 : zI σ2 11 5 = zI σ 11 5 := ob_I r11 5
  unfold wpX8_addNamed
  rw [qa, B, B, ra]
  rw [ob_I q11 5] at t4'
  refine ⟨by rw [← qa]; exact hat, x_add p ⟨by decide, s2, ⟨by omega, by rw [hN5]; exact t4'⟩, by omega, by decide, fun _ _ _ => t2.1, fun _ => t3.1, fun q => absurd q (by decide), fun q => absurd q (by decide), fun _ => ⟨fun _ => a, fun q => absurd q (by decide), fun q => absurd q (by decide)⟩⟩ (Or.inl rfl) (by rw [ob_I r13 7]; omega) (fun τ tp tk ex ts ty => ?_)⟩
  have ta : zI τ 14 4 = zI σ 14 4 + 1 + 1 := (tk.I (by decide) 4).trans ra
  have T12 : ob τ 12 = ob σ 12 := (tk 12 (by decide)).trans r12
  have T11 : ob τ 11 = ob σ 11 := (tk 11 (by decide)).trans r11
  have onT := tp.on (show zA τ 12 0 (zI τ 14 4) ≠ 0 by rw [ob_A T12 0, ta]; omega)
  have opn := onT.op ex
  clear ex
  have p3 := (hC.pl (i := zI σ 14 4 + 1 + 1) (by omega) k1 (by omega)).1
  have ya : zI (zsI (zsI τ 14 4 (zI τ 14 4 + 1)) 14 5 1) 14 4 = zI σ 14 4 + 1 + 1 + 1 := by
    rw [show zI (zsI (zsI τ 14 4 (zI τ 14 4 + 1)) 14 5 1) 14 4 = zI τ 14 4 + 1 from (zI_f (by decide)).trans zI_s, ta]
  have y11 : ob (zsI (zsI τ 14 4 (zI τ 14 4 + 1)) 14 5 1) 11 = ob σ 11 := ((ob_i (by decide)).trans (ob_i (by decide))).trans T11
  have y12 : ob (zsI (zsI τ 14 4 (zI τ 14 4 + 1)) 14 5 1) 12 = ob σ 12 := ((ob_i (by decide)).trans (ob_i (by decide))).trans T12
  have y13 : yS (zsI (zsI τ 14 4 (zI τ 14 4 + 1)) 14 5 1) = ySeg (yS σ) (zA σ 12 1 (zI σ 14 4 + 1)) (zA σ 12 1 (zI σ 14 4 + 1 + 1)) := by
    rw [yS.k (τ := zsI (zsI τ 14 4 (zI τ 14 4 + 1)) 14 5 1) (σ := τ) ((ob_i (by decide)).trans (ob_i (by decide))), ty, yS.k r13]
    rfl
  refine hQ 1 _ ⟨by decide, opn, ((on2.2.1.tr (tk.up (by decide))).ti (by decide)).ti (by decide), fun _ => ?_⟩ (fun ρ Qr rS rB rI h1 h0 => ?_)
  · rw [ya]
    show 2 * zI τ 13 7 ≤ _ ∧ _
    rw [ts, ob_I r13 7]
    omega
  · have Tv := (rS.2.2.2.2.f.2.2.2.2.2.2.2.2.2.1 t6).1
    refine r_dir hP hC t6 (by omega) rS rB rI (fun _ b δ dn => ⟨fun _ => ?_, fun q => by omega⟩) (fun q => absurd e q)
    obtain ⟨dS, dB, dF, dp, d31, dn', db, dsg, -, du⟩ := dn
    have T2 := dS.2.2.2.2.f.2.1.mp e2
    have T2v := dS.2.2.2.2.f.2.2.1 e2
    have l7 := dB.1.2.1.2.2.1
    have l10 := dB.1.2.1.2.2.2.2.1
    have good : wpX11_directive_153 (zA σ 12 1 (zI σ 14 4 + 1)) (zI b 0 6) δ Qr := by
      unfold wpX11_directive_153
      rw [T2v]
      refine r_open dB dn' (by unfold al at a; omega) db (dsg (by omega) T2) (fun υ gu uB uf up => ?_)
      have uS := dS.fr uf (by decide) (by decide) (by decide) (by decide) (by decide) (by decide) (by decide) (by decide)
      have u31 := uf.1 31 (by decide); have u6 := uf.1 6 (by decide)
      refine r_nextD (hC.k y11 y12) (by omega) (by rw [ob_I y12 3]; exact k1) (uS.k y11 y12) (uB _ y11 (by rfl)) (by rw [ob_A y12 0]; omega) (fun γ gS gB gF gf gp g1 g2 => h1 rfl γ ?_ ?_ gF (dp.tr (up.tr gp)) ?_)
      · rw [ya]; exact gS
      · rw [ya, hC.m1 (by omega) k1 (by omega)]
        exact gB.b rfl rfl y13
      · have := gf.1 31 (by decide)
        omega
    unfold wpX11_directive_60 wpX11_directive_90
    refine ⟨by omega, fun _ => ⟨by omega, fun _ => ⟨by omega, fun q => absurd T2 q, fun q => ⟨by omega, fun y => good, fun m1 => ⟨fun y => good, fun m2 => ⟨fun y => good, fun m4 => ⟨fun y => good, fun m8 => ⟨fun y => good, fun m16 => ?_⟩⟩⟩⟩⟩⟩, fun q => by omega⟩, fun q => by omega⟩
    unfold al at a
    omega
