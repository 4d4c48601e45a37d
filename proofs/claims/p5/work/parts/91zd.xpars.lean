/-! X: directives as a whole, the parse in step -/
/-- the reference behind a directive's word -/
def dC (σ σ26 : ZS) (Q : Int → ZS → Prop) : Prop := (-2147483648 ≤ (zI σ 0 9) ∧ (zI σ 0 9) ≤ 2147483647) ∧ ((zI σ 0 9) < 15 → wpX11_isName σ26 (fun (x29 : Int) (σ30 : ZS) => (-2147483648 ≤ x29 ∧ x29 ≤ 2147483647) ∧ (¬ x29 = 0 → wpX11_name σ30 (fun (x33 : Int) (σ34 : ZS) => wpX11_next σ34 (fun (σ36 : ZS) => (¬ (zI σ 0 9) = 13 → wpX11_directive_60 (zI σ 0 9) x33 (zI σ34 0 6) σ36 Q) ∧ ((zI σ 0 9) = 13 → wpX11_use 0 x33 (zI σ34 0 6) σ36 (fun (σ39 : ZS) => wpX11_directive_60 (zI σ 0 9) x33 (zI σ34 0 6) σ39 Q))))) ∧ (x29 = 0 → wpX11_fault σ30 (fun (x40 : Int) (σ41 : ZS) => (0 ≤ x40 ∧ x40 ≤ 1) ∧ Q x40 σ41)))) ∧ (¬ (zI σ 0 9) < 15 → wpX11_data (zI σ 0 9) σ26 (fun (x43 : Int) (σ44 : ZS) => (0 ≤ x43 ∧ x43 ≤ 1) ∧ Q x43 σ44))
theorem x_next0 {σ : ZS} {Q : ZS → Prop} (hA0 : PA0 σ) (i5 : zI σ 0 5 = 0) (i17 : zI σ 0 17 = 0) (i18 : zI σ 0 18 = -1) (i23 : zI σ 0 23 = 0) (i31 : zI σ 0 31 = 0) (i32 : zI σ 0 32 = -1) (i33 : zI σ 0 33 = 0) (i34 : zI σ 0 34 = 0) (hQ : ∀ τ : ZS, GG τ → fr [5, 6, 7, 8, 9, 10] [] σ τ → Itm τ → nxt σ τ → Q τ) : wpX11_next σ Q := by
  obtain ⟨hT, ⟨l4, l5, l6, l14, l15, l16, l17, l18⟩, h1, h2, h3, h41⟩ := hA0
  have l1 := hT.1
  have hA : GA σ := ⟨h1, h2, h3, ⟨h41, fun s a b => by omega, fun n a b => by omega⟩, ⟨fun u a b => by omega, fun p a b => by omega⟩, fun _ => ⟨fun p a b => by omega, fun n a b => by omega⟩⟩
  refine s_next hT (by omega) (fun τ hn => ?_)
  have hn0 := hn
  obtain ⟨hf, s, e, hrun, q6, q5, hcase⟩ := hn
  have e2 := hf.1 2 (by decide); have e17 := hf.1 17 (by decide); have e18 := hf.1 18 (by decide); have e23 := hf.1 23 (by decide); have e31 := hf.1 31 (by decide); have e32 := hf.1 32 (by decide); have e33 := hf.1 33 (by decide); have e34 := hf.1 34 (by decide)
  have e37 := hf.1 37 (by decide); have e38 := hf.1 38 (by decide); have e39 := hf.1 39 (by decide); have e41 := hf.1 41 (by decide); have e42 := hf.1 42 (by decide)
  have a1 : zA τ 0 1 = zA σ 0 1 := hf.2 1 (by decide)
  have hTt : Tx τ := hT.fr hf (by decide) (by decide) (by decide)
  obtain ⟨r1, r2, r3, r4⟩ := hrun
  have hch : ∀ j : Int, 0 ≤ j → j < zI σ 0 2 → 0 ≤ zA σ 0 1 j ∧ zA σ 0 1 j < 256 := fun j a b => by have := hT.2.1 j a b; omega
  have key : (s ≤ e ∧ e ≤ zI σ 0 2) ∧ (0 ≤ zI τ 0 7 ∧ zI τ 0 7 ≤ 126) ∧ (zI τ 0 7 = 0 → s = zI σ 0 2) ∧ (zI τ 0 7 ≠ 0 → s < e) ∧ (-1 ≤ zI τ 0 9 ∧ zI τ 0 9 ≤ 47) ∧ (zI τ 0 7 = 1 → zI τ 0 9 = 12 → s + 3 ≤ e) ∧ (zI τ 0 7 = 1 → zI τ 0 9 = 13 → s + 6 ≤ e) ∧ (0 ≤ zI τ 0 10 ∧ zI τ 0 10 ≤ 1000009) ∧ (0 ≤ zI τ 0 8 ∧ zI τ 0 8 ≤ 72057594037927936) ∧ (zI τ 0 7 = 1 → e = zI σ 0 2 ∨ ¬ (cL (zA σ 0 1 e) ∨ cD (zA σ 0 1 e))) ∧ (zI τ 0 7 = 1 ∨ zI τ 0 7 = 2 → s < zI σ 0 2 ∧ (cL (zA σ 0 1 s) ∨ cD (zA σ 0 1 s))) := by
    rcases hcase with ⟨c1, c2, c3, c4, c5, c6⟩ | ⟨c1, c2, c3, c4, c5, c6, c7⟩ | ⟨c1, c2, c3, c4, c5, c6, c7⟩ | ⟨c1, c2, c3, c4, c5, c6, c7, c8⟩
    · exact ⟨by omega, by omega, by omega, by omega, by omega, by omega, by omega, by omega, by omega, by omega, by omega⟩
    · obtain ⟨d1, d2, d3, d4⟩ := c3
      have hb := wv_bd (h := zA σ 0 1) (s := s) (min (e - s) 7).toNat (fun j a b => hch j (by omega) (by omega))
      have h7 : (256 : Int) ^ (min (e - s) 7).toNat ≤ 256 ^ 7 := p256 (by omega)
      have h77 : (256 : Int) ^ 7 = 72057594037927936 := by decide
      have hcode : -1 ≤ zI τ 0 9 ∧ zI τ 0 9 ≤ 47 := by
        rcases c6 with c6 | c6
        · have := c6.1; omega
        · have := c6.1; have := c6.2.1; omega
      have hlen : ∀ (k : Nat) (c : Int), zI τ 0 9 = c → 0 ≤ c → c < 48 → (256 : Int) ^ k ≤ zwords c → k < (min (e - s) 7).toNat := by
        intro k c k1 k2 k3 k4
        refine wv_len (h := zA σ 0 1) (s := s) (w := zI τ 0 8) k (fun j a b => hch j (by omega) (by omega)) c5 ?_
        rcases c6 with c6 | c6
        · have := c6.1; omega
        · have := c6.2.2.1
          rw [k1, hT.2.2 c k2 k3] at this
          omega
      refine ⟨by omega, by rw [c4]; split <;> omega, fun h => by rw [c4] at h; split at h <;> omega, fun _ => by omega, hcode, fun t1 t2 => ?_, fun t1 t2 => ?_, by omega, by rw [c5]; omega, fun _ => d4, fun _ => ⟨c1, Or.inl c2⟩⟩
      · have := hlen 2 12 t2 (by decide) (by decide) (by decide)
        omega
      · have := hlen 5 13 t2 (by decide) (by decide) (by decide)
        omega
    · obtain ⟨d1, d2, d3, d4⟩ := c3
      have hb := nv_bd (h := zA σ 0 1) (s := s) (e - s - 1).toNat (fun j a b => by
        by_cases q : j = s
        · rw [q]; exact c2
        · exact d3 j (by omega) (by omega))
      rw [← c4] at hb
      have t7 : zI τ 0 7 = 2 ∨ zI τ 0 7 = 9 := by
        rw [c5]; split
        · exact Or.inl rfl
        · exact Or.inr rfl
      clear d3 d4 c5
      exact ⟨by omega, by omega, by omega, by omega, by omega, by omega, by omega, by omega, by omega, by omega, fun _ => ⟨c1, Or.inr c2⟩⟩
    · have ht := hT.2.1 s (by omega) c1
      have t7 : zI τ 0 7 ≠ 0 ∧ zI τ 0 7 ≠ 1 ∧ zI τ 0 7 ≠ 2 ∧ 0 ≤ zI τ 0 7 ∧ zI τ 0 7 ≤ 126 := by
        rcases c5 with c5 | c5
        · have k1 := c5.1; have k2 := c5.2; unfold cS at k1; omega
        · have k2 := c5.2; omega
      clear c2 c3 c5
      exact ⟨by omega, by omega, by omega, by omega, by omega, by omega, by omega, by omega, by omega, by omega, by omega⟩
  clear hcase
  obtain ⟨k1, k2, k3, k4, k5, k6, k7, k8, k9, k10, k11⟩ := key
  have hc : 7 * cntP (zA τ 0 19) (zI τ 0 23).toNat = 0 := by rw [e23, i23]; rfl
  have hLt : GL τ := by
    unfold GL
    clear k3 k4 k6 k7 k10 k11
    exact ⟨by omega, by omega, by omega, by omega, by omega, by omega, by omega, by omega, by omega, by omega, by omega, by omega, by omega, by omega, by omega, by omega, by omega, by omega, by omega⟩
  have hGG : GG τ := ⟨hTt, hLt, ⟨fun t => by have := k3 t; omega, fun t => by have := k4 t; omega, fun t1 t2 => by have := k6 t1 t2; omega, fun t1 t2 => by have := k7 t1 t2; omega, fun t1 => by rw [q5, e2, a1]; exact k10 t1⟩, fun _ _ => by omega, ⟨fun _ => by omega, fun _ q => by omega⟩, hf.gA hA⟩
  exact hQ τ hGG hf ⟨hGG, fun _ => by omega, by omega, by omega, by omega⟩ hn0
theorem zdir {w : Int} (h0 : 0 ≤ w) (h1 : w < 6) : zform w = w := by
  have hc : w = 0 ∨ w = 1 ∨ w = 2 ∨ w = 3 ∨ w = 4 ∨ w = 5 := by omega
  rcases hc with rfl | rfl | rfl | rfl | rfl | rfl <;> decide
theorem t_directive {h : Int → Int} {L : Int} {E M : Int → Int} {σ : ZS} {Q : Int → ZS → Prop} (hP : PS σ) (hC : CT h L E M σ) (hz : 2 * zI σ 13 7 ≤ zA σ 12 2 (zI σ 14 4)) (t6 : zA σ 12 0 (zI σ 14 4) = 6) (w0 : 0 ≤ zA σ 12 1 (zI σ 14 4)) (w6 : zA σ 12 1 (zI σ 14 4) < 6) (ho : 3 ≤ zA σ 12 1 (zI σ 14 4) → zI σ 14 5 = 1) (hQ : ∀ (x : Int) (τ : ZS), CSi σ τ x → TSd h L E M σ τ x wpX11_directive → Q x τ) : wpX8_directive (zform (zA σ 12 1 (zI σ 14 4))) σ Q := by
  have on : PG σ (zsI σ 14 4 (zI σ 14 4 + 1)) := (PG.rf hP).on (by omega)
  have pb := hP.tk.2.2.1
  have i0 := hP.2.2.1.1
  have i1 : zI σ 14 4 < zI σ 12 3 := by have := hP.2.2.1; omega
  have p1 := (hC.pl i0 i1 (show zA σ 12 0 (zI σ 14 4) ≠ 0 by omega)).2 (Or.inr (Or.inr t6))
  have qa : zI (zsI σ 14 4 (zI σ 14 4 + 1)) 14 4 = zI σ 14 4 + 1 := zI_s
  have hC1 : CT h L E M (zsI σ 14 4 (zI σ 14 4 + 1)) := hC.k (ob_i (by decide)) (ob_i (by decide))
  have hz1 : zI (zsI σ 14 4 (zI σ 14 4 + 1)) 13 7 ≤ 242 := by
    show zI σ 13 7 ≤ 242
    omega
  have hz2 : 2 * zI (zsI σ 14 4 (zI σ 14 4 + 1)) 13 7 ≤ zA (zsI σ 14 4 (zI σ 14 4 + 1)) 12 2 (zI (zsI σ 14 4 (zI σ 14 4 + 1)) 14 4) + 2 := by
    rw [qa]
    show 2 * zI σ 13 7 ≤ zA σ 12 2 (zI σ 14 4 + 1) + 2
    omega
  have oo : 3 ≤ zA σ 12 1 (zI σ 14 4) → zI (zsI σ 14 4 (zI σ 14 4 + 1)) 14 5 = 1 := ho
  have gen : ∀ c : Int, 15 ≤ c → c = zA σ 12 1 (zI σ 14 4) + 12 → ∀ (x : Int) (τ : ZS), CSt (zsI σ 14 4 (zI σ 14 4 + 1)) τ x → TSt h L E M (zsI σ 14 4 (zI σ 14 4 + 1)) τ x (wpX11_data c) → (0 ≤ x ∧ x ≤ 1) ∧ Q x τ := by
    intro c hc ec x τ cs ts
    refine ⟨cs.1, hQ x τ (CSt.i hP hC t6 hz cs) (TSi.d (TSt.i (C := dC) hP hC t6 ts (fun ρ γ Qr _ _ e9 e6 k => ?_)))⟩
    unfold dC
    refine ⟨by omega, fun q => by omega, fun _ => ?_⟩
    rw [e9, ← ec]
    exact k _ (fun y ρ' hy q => ⟨hy, q⟩)
  rw [zdir w0 w6]
  unfold wpX8_directive
  exact ⟨by omega, fun e => t_seg hP hC hz t6 e (fun x τ c t => ⟨c.1, hQ x τ c t⟩), fun n0 => ⟨fun e => t_decl hP hC hz t6 (Or.inl ⟨e, rfl⟩) (fun x τ c t => ⟨c.1, hQ x τ c t⟩), fun n1 => ⟨fun e => t_decl hP hC hz t6 (Or.inr ⟨e, rfl⟩) (fun x τ c t => ⟨c.1, hQ x τ c t⟩), fun n2 => ⟨fun e => t_words on.1 hC1 (oo (by omega)) hz2 (gen 15 (by decide) (by omega)), fun n3 => ⟨fun e => t_bytes on.1 hC1 (oo (by omega)) hz2 (gen 16 (by decide) (by omega)), fun n4 => t_space on.1 hC1 (oo (by omega)) hz1 (gen 17 (by decide) (by omega))⟩⟩⟩⟩⟩
/-- may the word stand there -/
theorem x_mayStand {a : Int} {σ : ZS} {Q : Int → ZS → Prop} (h : PS σ) (ha : 0 ≤ a ∧ a ≤ 65536) (h1 : a < 36 → (zI σ 14 5 = 1 ∨ a ≤ 2) → Q 1 σ) (h0 : ¬ (a < 36 ∧ (zI σ 14 5 = 1 ∨ a ≤ 2)) → Q 0 σ) : wpX8_mayStand a σ Q := by
  have o := h.2.2.2.1
  have zf : a < 36 → (zform a ≤ 2 ↔ a ≤ 2) ∧ (-2147483648 ≤ zform a ∧ zform a ≤ 2147483647) := by
    intro lt
    by_cases q : a < 6
    · rw [zdir ha.1 q]; omega
    · have := ztab (w := a) (by omega) lt
      omega
  unfold wpX8_mayStand wpX8_mayStand_28 wpX8_mayStand_32 wpX8_mayStand_33
  refine ⟨by omega, fun _ => ⟨by decide, h0 (by omega)⟩, fun _ => ⟨fun _ => ⟨by decide, h0 (by omega)⟩, fun lt => ⟨by omega, fun _ => ⟨by decide, h1 (by omega) (Or.inl (by omega))⟩, fun _ => ?_⟩⟩⟩
  have z := zf (by omega)
  exact ⟨by omega, z.2, fun q => ⟨by decide, h0 (by omega)⟩, fun q => ⟨by decide, h1 (by omega) (Or.inr (by omega))⟩⟩
/-- the reference's parse answers alike -/
def PE (h : Int → Int) (L : Int) (E M : Int → Int) (σ τ : ZS) (x : Int) : Prop := ∀ (ρ : ZS) (Qr : Int → ZS → Prop), HdI h L E M σ ρ → (x < 0 → ∀ ρ' : ZS, RB τ ρ' (zI τ 11 5) [] → PR ρ ρ' → Qr 1 ρ') → (¬ x < 0 → ∀ ρ' : ZS, GG ρ' → PR ρ ρ' → Qr 0 ρ') → wpX11_parse_44 ρ Qr
theorem t_parse {h : Int → Int} {L : Int} {E M : Int → Int} {σ : ZS} {Q : Int → ZS → Prop} (hC : CT h L E M σ) (hQ : ∀ (x : Int) (τ : ZS), PS τ → kp [5, 6, 13, 14] σ τ → (-1 ≤ x ∧ x ≤ 480) → PE h L E M (zsI (zsI (zsI σ 14 4 0) 14 5 0) 13 7 0) τ x → Q x τ) : wpX8_parse σ Q := by
  obtain ⟨rS, rR, rF, rT⟩ := hC.1.1
  have he : 1 ≤ zI σ 12 3 ∧ zA σ 12 0 (zI σ 12 3 - 1) = 0 := ⟨hC.1.2.2.1, hC.1.2.2.2.1⟩
  have p0 : 0 ≤ zA σ 12 2 0 := (rT.2 0 (by decide) (by omega)).2.2.1.1
  unfold wpX8_parse wpX8_parse_20
  obtain ⟨σ0, hσ0⟩ : ∃ τ, τ = zsI (zsI (zsI σ 14 4 0) 14 5 0) 13 7 0 := ⟨_, rfl⟩
  have P0 : PS σ0 := by
    rw [hσ0]
    refine ⟨?_, he, ?_, ?_, ⟨?_, fun i i0 i1 => ?_, fun i i0 i1 => ?_⟩, ⟨fun i i0 i1 => ?_, fun q => absurd rfl q⟩, rS.1⟩
    · exact rT.k (((ob_i (by decide)).trans (ob_i (by decide))).trans (ob_i (by decide))) (((ob_i (by decide)).trans (ob_i (by decide))).trans (ob_i (by decide)))
    · show (0 : Int) ≤ 0 ∧ (0 : Int) ≤ zI σ 12 3 - 1
      omega
    · show (0 : Int) ≤ 0 ∧ (0 : Int) ≤ 1
      decide
    · show (0 : Int) ≤ 0 ∧ (0 : Int) ≤ 248
      decide
    · have i1' : i < 0 := i1
      omega
    · have i1' : i < 0 := i1
      omega
    · have i1' : i < 0 := i1
      omega
  have k0 : kp [5, 6, 13, 14] σ σ0 := by rw [hσ0]; exact ((kp.rf.ti (by decide)).ti (by decide)).ti (by decide)
  have a0 : zI σ0 14 4 = 0 := by rw [hσ0]; rfl
  have s0 : zI σ0 13 7 = 0 := by rw [hσ0]; rfl
  rw [← hσ0] at hQ ⊢
  clear hσ0
  refine lfp1_ind (fun v _ => (481 - v).toNat) (fun v τ => PS τ ∧ kp [5, 6, 13, 14] σ τ ∧ (0 ≤ v ∧ v ≤ 481) ∧ v ≤ zI τ 14 4 ∧ 2 * zI τ 13 7 ≤ zA σ 12 2 (zI τ 14 4) ∧ (∀ (ρ0 : ZS) (Qr : Int → ZS → Prop) (K : ZS → Prop), (∀ υ : ZS, wpbX11_parse_44 K υ Qr → K υ) → (∀ ρ' : ZS, HdI h L E M τ ρ' → PR ρ0 ρ' → K ρ') → ∀ ρ : ZS, HdI h L E M σ0 ρ → PR ρ0 ρ → K ρ)) (fun K v τ hI ih => ?_) ⟨P0, k0, by decide, by omega, by rw [a0, s0]; omega, fun ρ0 Qr K hK hG ρ hh hp => hG ρ hh hp⟩
  obtain ⟨tp, tk, v0, va, tz, tr⟩ := hI
  have hz := tp.1.1
  have hat := tp.2.2.1
  have e11 : ob τ 11 = ob σ 11 := tk 11 (by decide)
  have e12 : ob τ 12 = ob σ 12 := tk 12 (by decide)
  have hCt := hC.k e11 e12
  have w2 : zA τ 12 2 = zA σ 12 2 := ob_A e12 2
  have w3 : zI τ 12 3 = zI σ 12 3 := ob_I e12 3
  have i0 := hat.1
  have i1 : zI τ 14 4 < zI τ 12 3 := by omega
  have tt := tp.tk
  -- a statement that fails
  have bad : ∀ υ : ZS, PS υ → kp [5, 6, 13, 14] τ υ → zA τ 12 0 (zI τ 14 4) ≠ 0 → (∀ (ρ : ZS) (Qr : Int → ZS → Prop), HdI h L E M τ ρ → (∀ ρ' : ZS, GG ρ' → PR ρ ρ' → Qr 0 ρ') → wpX11_item ρ Qr) → wpX8_parse_146 υ Q := by
    intro υ up uk n0 it
    have ut := up.tk.2.2.1
    unfold wpX8_parse_146
    refine ⟨up.at, hQ _ υ up (tk.tr uk) (by omega) (fun ρ Qr hd _ q0 => ?_)⟩
    unfold wpX11_parse_44
    intro P hPP
    refine tr ρ Qr P hPP (fun ρ' hm mp => hPP _ ?_) ρ hd PR.rf
    have T0 := hm.1.2.2.2.2.f.1
    have l7 := hm.2.1.1.2.1.2.2.1
    unfold wpbX11_parse_44
    exact ⟨by omega, fun q => absurd (T0.mpr q) n0, fun _ => it ρ' _ hm (fun ρ2 g p => ⟨by decide, fun q => absurd rfl q, fun _ => q0 (by omega) ρ2 g (mp.tr p)⟩)⟩
  -- a statement that stands, up to its end
  have f133 : ∀ ω : ZS, zA τ 12 0 (zI τ 14 4) ≠ 0 → PS ω → kp [5, 6, 13, 14] τ ω → zI τ 14 4 ≤ zI ω 14 4 → 2 * zI ω 13 7 ≤ zA σ 12 2 (zI ω 14 4) + 1 → (∀ (ρ : ZS) (Qr : Int → ZS → Prop), HdI h L E M τ ρ → (∀ ρ2 : ZS, SY h L E ω (zI ω 14 4) ρ2 → RB ω ρ2 (M (zI ω 14 4)) [] → Fresh ρ2 → PR ρ ρ2 → zI ρ2 0 31 ≤ 2 * zI ρ2 0 6 → wpX11_item_116 ρ2 Qr) → wpX11_item ρ Qr) → wpX8_parse_133 K v 1 ω Q := by
    intro ω n0 wp wk wa wz it
    have c11 : ob ω 11 = ob σ 11 := (wk 11 (by decide)).trans e11
    have c12 : ob ω 12 = ob σ 12 := (wk 12 (by decide)).trans e12
    have hCw := hC.k c11 c12
    have x3 : zI ω 12 3 = zI σ 12 3 := ob_I c12 3
    have hatw := wp.2.2.1
    have s59 : cS 59 := by unfold cS; omega
    unfold wpX8_parse_133
    refine ⟨by decide, fun q => absurd q (by decide), fun _ => c_take wp (by decide) (fun e p => ⟨by decide, fun _ => ih _ _ ⟨p, (tk.tr wk).ti (by decide), by omega, ?_, ?_, fun ρ0 Qr P hPP hG ρ hh hp => tr ρ0 Qr P hPP (fun ρ' hm mp => hPP _ ?_) ρ hh hp⟩ (by omega), fun q => absurd q (by decide)⟩) (fun ne => ⟨by decide, fun q => absurd rfl q, fun _ => bad ω wp wk n0 (fun ρ Qr hd q0 => it ρ Qr hd (fun ρ2 s2 b2 f2 p2 q31 => ?_))⟩)⟩
    · rw [zI_s]; omega
    · rw [zI_s]
      show 2 * zI ω 13 7 ≤ zA σ 12 2 (zI ω 14 4 + 1)
      have := (hCw.pl (i := zI ω 14 4) (by omega) (by omega) (by omega)).1
      rw [ob_A c12 2] at this
      omega
    · have T0 := hm.1.2.2.2.2.f.1
      have l7 := hm.2.1.1.2.1.2.2.1
      unfold wpbX11_parse_44
      refine ⟨by omega, fun q => absurd (T0.mpr q) n0, fun _ => it ρ' _ hm (fun ρ2 s2 b2 f2 p2 q31 => ?_)⟩
      have gl := b2.1.2.1
      obtain ⟨l1, l2, l3, l4, l5, l6, l7', l8, l9, l10, l11, l12, l13, l14, l15, l16, l17, l18, l19⟩ := gl
      unfold wpX11_item_116
      refine r_take hCw (by omega) (by omega) s2 b2 s59 (fun _ ρ3 s3 b3 f3 g3 p3 c6 c5 => ⟨by decide, by decide, fun _ => hG ρ3 ⟨?_, ?_, b3.1, f3, ?_, ?_, ?_⟩ (mp.tr (p2.tr p3)), fun q => absurd q (by decide)⟩) (fun q => absurd e q)
      · rw [show zI (zsI ω 14 4 (zI ω 14 4 + 1)) 14 4 = zI ω 14 4 + 1 from zI_s]
        exact s3.k (ob_i (by decide)) (ob_i (by decide))
      · rw [show zI (zsI ω 14 4 (zI ω 14 4 + 1)) 14 4 = zI ω 14 4 + 1 from zI_s, hCw.m1 (by omega) (by omega) (by omega)]
        exact b3.k (ob_i (by decide)) (ob_i (by decide)) (zI_f (by decide))
      · rw [g3.1 31 (by decide)]; omega
      · rw [g3.1 34 (by decide)]; omega
      · rw [g3.2 19 (by decide), g3.1 23 (by decide)]; omega
    · unfold wpX11_item_116
      exact r_take hCw (by omega) (by omega) s2 b2 s59 (fun q => absurd q ne) (fun _ => ⟨by decide, q0 _ (GG_34 b2.1) (p2.tr PR_fault)⟩)
  -- behind the label
  have f58 : ∀ υ : ZS, zA τ 12 0 (zI τ 14 4) ≠ 0 → PS υ → kp [5, 6, 13, 14] τ υ → zI τ 14 4 ≤ zI υ 14 4 → 2 * zI υ 13 7 ≤ zA σ 12 2 (zI υ 14 4) → (∀ (ρ : ZS) (Qr : Int → ZS → Prop), HdI h L E M τ ρ → (∀ ρ' : ZS, HdI h L E M υ ρ' → PR ρ ρ' → wpX11_item_50 ρ' Qr) → wpX11_item ρ Qr) → wpX8_parse_58 K v 1 υ Q := by
    intro υ n0 up uk ua uz lb
    have c11 : ob υ 11 = ob σ 11 := (uk 11 (by decide)).trans e11
    have c12 : ob υ 12 = ob σ 12 := (uk 12 (by decide)).trans e12
    have hCu := hC.k c11 c12
    have x2 : zA υ 12 2 = zA σ 12 2 := ob_A c12 2
    have ut := up.tk
    have uz' : 2 * zI υ 13 7 ≤ zA υ 12 2 (zI υ 14 4) := by rw [x2]; exact uz
    -- what comes of a statement
    have fin : ∀ (W : ZS → (Int → ZS → Prop) → Prop) (x : Int) (ω : ZS), (∀ (ρ' : ZS) (Qr : Int → ZS → Prop), HdI h L E M υ ρ' → W ρ' (fun x6 σ7 => (-2147483648 ≤ x6 ∧ x6 ≤ 2147483647) ∧ (¬ x6 = 0 → wpX11_item_116 σ7 Qr) ∧ (x6 = 0 → wpX11_item_114 σ7 Qr)) → wpX11_item_50 ρ' Qr) → CSi υ ω x → TSd h L E M υ ω x W → (-2147483648 ≤ x ∧ x ≤ 2147483647) ∧ (x = 0 → wpX8_parse_131 K v ω Q) ∧ (¬ x = 0 → wpX8_parse_127 K v ω Q) := by
      intro W x ω hW cs ts
      obtain ⟨cx, cp, ck, cz⟩ := cs
      unfold wpX8_parse_131 wpX8_parse_127 wpX8_parse_132
      refine ⟨by omega, fun x0 => ?_, fun x1 => ?_⟩
      · unfold wpX8_parse_133
        refine ⟨by decide, fun _ => bad ω cp (uk.tr ck) n0 (fun ρ Qr hd q0 => lb ρ Qr hd (fun ρ' hm mp => hW ρ' Qr hm (ts ρ' _ hm.1 hm.2.1 hm.2.2 (fun q => by omega) (fun _ ρ2 g p => ⟨by decide, fun q => absurd rfl q, fun _ => q0 ρ2 g (mp.tr p)⟩)))), fun q => absurd rfl q⟩
      · have x1' : x = 1 := by omega
        have cz' := cz x1'
        rw [x2] at cz'
        refine f133 ω n0 cp (uk.tr ck) (by omega) cz'.1 (fun ρ Qr hd k => lb ρ Qr hd (fun ρ' hm mp => hW ρ' Qr hm (ts ρ' _ hm.1 hm.2.1 hm.2.2 (fun _ ρ2 s2 b2 f2 p2 q31 => ⟨by decide, fun _ => k ρ2 s2 b2 f2 (mp.tr p2) q31, fun q => absurd q (by decide)⟩) (fun q => by omega))))
    have T6 : ∀ ρ' : ZS, SY h L E υ (zI υ 14 4) ρ' → (zA υ 12 0 (zI υ 14 4) = 6 ↔ zI ρ' 0 7 = 1 ∧ 12 ≤ zI ρ' 0 9) := fun ρ' s => s.2.2.2.2.f.2.2.2.2.2.2.2.2.1
    have T6v : ∀ ρ' : ZS, SY h L E υ (zI υ 14 4) ρ' → zA υ 12 0 (zI υ 14 4) = 6 → zI ρ' 0 9 = zA υ 12 1 (zI υ 14 4) + 12 := fun ρ' s q => (s.2.2.2.2.f.2.2.2.2.2.2.2.2.2.1 q).1
    unfold wpX8_parse_58
    refine ⟨by decide, fun q => absurd q (by decide), fun _ => c_type up ⟨by have := ut.1; omega, fun n6 => f133 υ n0 up uk ua (by omega) (fun ρ Qr hd k => lb ρ Qr hd (fun ρ' hm mp => ?_)), fun e6 => c_value up (x_mayStand up ut.2.1 (fun lt o => ⟨by decide, fun q => absurd q (by decide), fun _ => ⟨by have := ut.2.1; omega, ?_, fun f6 => ?_, fun f5 => ?_⟩⟩) (fun no => ⟨by decide, fun _ => ?_, fun q => absurd rfl q⟩))⟩⟩
    · have q6 := (T6 ρ' hm.1)
      have l7 := hm.2.2.1.2.1.2.2.1
      have l9 := hm.2.2.1.2.1.2.2.2.1
      have kk := k ρ' hm.1 hm.2.1 hm.2.2.2.1 mp hm.2.2.2.2.1
      unfold wpX11_item_50
      exact ⟨by omega, fun _ => kk, fun t => ⟨by omega, fun _ => kk, fun q => absurd (q6.mpr ⟨t, by omega⟩) n6⟩⟩
    · have b := zform_bd (i := zA υ 12 1 (zI υ 14 4)) ⟨ut.2.1.1, lt⟩
      omega
    · have w5 : 6 ≤ zA υ 12 1 (zI υ 14 4) := by
        by_cases q : zA υ 12 1 (zI υ 14 4) < 6
        · rw [zdir ut.2.1.1 q] at f6; exact f6
        · omega
      have o1 : zI υ 14 5 = 1 := by omega
      refine t_instruction up hCu o1 uz' e6 w5 lt (fun x ω cs ts => fin wpX11_instruction x ω (fun ρ' Qr hm k => ?_) cs ts.d)
      have q6 := (T6 ρ' hm.1).mp e6
      have qv := T6v ρ' hm.1 e6
      have l9 := hm.2.2.1.2.1.2.2.2.1
      have e33 : zI ρ' 0 33 = 1 := by rw [hm.2.1.2.2.1]; exact o1
      unfold wpX11_item_50 wpX11_item_88
      exact ⟨by omega, fun q => absurd q6.1 q, fun _ => ⟨by omega, fun q => by omega, fun _ => ⟨by omega, fun _ => ⟨by omega, fun _ => k, fun q => by omega⟩, fun q => by omega⟩⟩⟩
    · have w5 : zA υ 12 1 (zI υ 14 4) < 6 := by
        by_cases q : zA υ 12 1 (zI υ 14 4) < 6
        · exact q
        · have := ztab (w := zA υ 12 1 (zI υ 14 4)) (by omega) lt
          omega
      refine t_directive up hCu uz' e6 ut.2.1.1 w5 (fun q => by omega) (fun x ω cs ts => fin wpX11_directive x ω (fun ρ' Qr hm k => ?_) cs ts)
      have q6 := (T6 ρ' hm.1).mp e6
      have qv := T6v ρ' hm.1 e6
      have l9 := hm.2.2.1.2.1.2.2.2.1
      have e33 : zI ρ' 0 33 = zI υ 14 5 := hm.2.1.2.2.1
      have o5 := up.2.2.2.1
      have k88 : wpX11_item_88 ρ' Qr := by
        unfold wpX11_item_88
        exact ⟨by omega, fun q => by omega, fun _ => k⟩
      unfold wpX11_item_50
      exact ⟨by omega, fun q => absurd q6.1 q, fun _ => ⟨by omega, fun q => by omega, fun _ => ⟨by omega, fun _ => k88, fun z => ⟨fun _ => k88, fun q => by omega⟩⟩⟩⟩
    · unfold wpX8_parse_131 wpX8_parse_132 wpX8_parse_133
      refine ⟨by decide, fun _ => bad υ up uk n0 (fun ρ Qr hd q0 => lb ρ Qr hd (fun ρ' hm mp => ?_)), fun q => absurd rfl q⟩
      have q6 := (T6 ρ' hm.1).mp e6
      have qv := T6v ρ' hm.1 e6
      have l9 := hm.2.2.1.2.1.2.2.2.1
      have e33 : zI ρ' 0 33 = zI υ 14 5 := hm.2.1.2.2.1
      have o5 := up.2.2.2.1
      unfold wpX11_item_50
      exact ⟨by omega, fun q => absurd q6.1 q, fun _ => ⟨by omega, fun q => by omega, fun _ => ⟨by omega, fun q => absurd (⟨by omega, Or.inl (by omega)⟩) no, fun z => ⟨fun q => absurd ⟨by omega, Or.inr (by omega)⟩ no, fun _ => s_fault ⟨by decide, q0 _ (GG_34 hm.2.2.1) (mp.tr PR_fault)⟩⟩⟩⟩⟩
  unfold wpbX8_parse_20 wpX8_parse_165 wpX8_parse_53
  refine ⟨by omega, by omega, fun q => by omega, fun _ => c_type tp ⟨by have := tt.1; omega, fun t0 => hQ _ τ tp tk (by decide) (fun ρ Qr hd q1 _ => ?_), fun n0 => c_type tp ⟨by have := tt.1; omega, fun n3 => f58 τ n0 tp kp.rf (Int.le_refl _) tz (fun ρ Qr hd k => ?_), fun e3 => t_label tp hCt (by rw [w2]; exact tz) e3 (fun ω wp wk wa wz lb => ⟨by decide, fun q => absurd q (by decide), fun _ => f58 ω n0 wp wk (by omega) (by rw [w2] at wz; exact wz) lb⟩) (fun ω wp wk it => ⟨by decide, fun _ => ?_, fun q => absurd rfl q⟩)⟩⟩⟩
  · unfold wpX11_parse_44
    intro P hPP
    refine tr ρ Qr P hPP (fun ρ' hm mp => hPP _ ?_) ρ hd PR.rf
    have T0 := hm.1.2.2.2.2.f.1.mp t0
    unfold wpbX11_parse_44
    refine ⟨by omega, fun _ => q1 (by decide) ρ' ?_ mp, fun q => absurd T0 q⟩
    have em : M (zI τ 14 4 + 1) = M (zI τ 14 4) := hCt.m1 i0 i1 (by omega)
    have al : zI τ 14 4 = zI τ 12 3 - 1 := by
      by_cases q : zI τ 14 4 < zI τ 12 3 - 1
      · exact absurd t0 (hCt.1.2.2.2.2.1 _ i0 q)
      · omega
    have : M (zI τ 14 4) = zI τ 11 5 := by
      rw [← em, al, show zI τ 12 3 - 1 + 1 = zI τ 12 3 by omega]
      exact hCt.1.2.2.2.2.2.1
    rw [← this]
    exact hm.2.1
  · have T3 := hd.1.2.2.2.2.f.2.2.2.1
    unfold wpX11_item
    exact r_isName hd.2.2.1.2.1 hd.1 (fun q => absurd q n3) (fun _ => ⟨by decide, fun _ => k ρ hd PR.rf, fun q => absurd rfl q⟩)
  · unfold wpX8_parse_58 wpX8_parse_133
    exact ⟨by decide, fun _ => ⟨by decide, fun _ => bad ω wp wk n0 it, fun q => absurd rfl q⟩, fun q => absurd rfl q⟩
