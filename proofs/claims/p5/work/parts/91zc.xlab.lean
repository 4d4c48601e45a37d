/-! X: labels on both sides -/
theorem YN.lab {ρ : ZS} {m n : Int} {d : YD} (h : YN ρ m d) (hn : 0 ≤ n ∧ n < m) (z : zA ρ 0 13 n = 0) : YN (zsA (zsA ρ 0 13 n 2) 0 14 n (zI ρ 0 32)) m (yLn d n) := by
  obtain ⟨hN, hZ, h34, h35, h32, h18⟩ := h
  have nn := hN n hn.1 hn.2
  refine ⟨fun k k0 k1 => ?_, fun k k0 => ?_, h34, h35, h32, h18⟩
  · show zu (zA ρ 0 13) n 2 k = zu d.so n 2 k ∧ (zu d.so n 2 k = 1 ∨ zu d.so n 2 k = 2 → zu (zA ρ 0 14) n (zI ρ 0 32) k = zu d.sg n d.cur k) ∧ (zu d.so n 2 k = 1 → zA ρ 0 15 k = d.al k)
    by_cases e : k = n
    · rw [e, pu_eq, pu_eq, pu_eq, pu_eq]; exact ⟨rfl, fun _ => h32, fun q => absurd q (by decide)⟩
    · rw [pu_ne e, pu_ne e, pu_ne e, pu_ne e]; exact hN k k0 k1
  · show zu d.so n 2 k = 0
    rw [pu_ne (by omega)]; exact hZ k k0
theorem r_label {σ ρ : ZS} {d : YD} {m n p : Int} {Q : ZS → Prop} (hB : RBd σ d ρ m []) (hs : zI ρ 0 33 = 1) (hp9 : zI ρ 0 31 + 1 ≤ 2 * zI ρ 0 6 + 8) (hn : 0 ≤ n ∧ n < 240 ∧ n < zI ρ 0 17) (hp : 0 ≤ p ∧ p ≤ 480) (hQ : ∀ τ : ZS, RBd σ (yLab d n) τ m [] → fr [18, 31] (13 :: 14 :: EA) ρ τ → PR ρ τ → zI τ 0 31 ≤ zI ρ 0 31 + 1 → Q τ) : wpX11_label n p ρ Q := by
  have g := s_label (Q := fun τ => GG τ ∧ PR ρ τ) hB.1 hs hp9 hn hp (fun τ a b _ _ _ _ _ _ _ _ => ⟨a, b⟩)
  obtain ⟨b0, b1, b3, b4⟩ := hB
  unfold wpX11_label wpX11_piece at g ⊢
  refine ⟨g.1, g.2.1, fun z => ⟨(g.2.2.1 z).1, ?_⟩, fun z => x_wrong hp.1 (g.2.2.2 z) (fun τ r r18 f => ?_)⟩
  · have r := (g.2.2.1 z).2
    obtain ⟨ρ1, h1⟩ : ∃ τ, τ = zsA (zsA ρ 0 13 n 2) 0 14 n (zI ρ 0 32) := ⟨_, rfl⟩
    rw [← h1] at r ⊢
    have f1 : fr [18, 31] (13 :: 14 :: EA) ρ ρ1 := by rw [h1]; exact (fr.rf.ta (by decide)).ta (by decide)
    have y1 : zI σ 11 5 ≤ 24 → YN ρ1 m (yLn d n) ∧ YP ρ1 (yLn d n) ∧ YU ρ1 (pU (yLn d n) []) ∧ d.so n = 0 := by
      intro q
      obtain ⟨c1, c2, c3⟩ := b4 q
      have nn := c1.1 n hn.1 (by rw [← b1.1]; exact hn.2.2)
      rw [h1]
      exact ⟨c1.lab ⟨hn.1, by rw [← b1.1]; exact hn.2.2⟩ z, c2, c3, by rw [← nn.1]; exact z⟩
    have i31 : zI ρ1 0 31 = zI ρ 0 31 := by rw [h1]; rfl
    have i32 : zI ρ1 0 32 = zI ρ 0 32 := by rw [h1]; rfl
    have i17 : zI ρ1 0 17 = zI ρ 0 17 := by rw [h1]; rfl
    have i33 : zI ρ1 0 33 = zI ρ 0 33 := by rw [h1]; rfl
    have i12 : zA ρ1 0 12 = zA ρ 0 12 := by rw [h1]; rfl
    clear h1
    obtain ⟨ρ2, h2⟩ : ∃ τ, τ = zsI (zsA (zsA (zsA (zsA (zsA (zsA ρ1 0 24 (zI ρ1 0 31) 7) 0 25 (zI ρ1 0 31) n) 0 26 (zI ρ1 0 31) 0) 0 27 (zI ρ1 0 31) p) 0 28 (zI ρ1 0 31) (zI ρ1 0 32)) 0 30 (zI ρ1 0 31) 0) 0 31 (zI ρ1 0 31 + 1) := ⟨_, rfl⟩
    rw [← h2] at r ⊢
    have f2 : fr [31] EA ρ1 ρ2 := by rw [h2]; exact ((((((fr.rf.ta (by decide)).ta (by decide)).ta (by decide)).ta (by decide)).ta (by decide)).ta (by decide)).ti (by decide)
    have x2 : xP ρ1 ρ2 7 n 0 := by rw [h2]; exact ⟨rfl, rfl, rfl, rfl, rfl⟩
    clear h2
    have l31 := (b0.2.1.2.2.2.2.2.2.2.2.1).1
    refine hQ ρ2 ⟨r.1, ?_, ?_, fun q => ?_⟩ (f1.tr (f2.up (by decide) (by decide))) r.2 (by rw [x2.1, i31]; omega)
    · rw [f2.1 17 (by decide), f2.2 12 (by decide), i17, i12]; exact b1
    · rw [f2.1 33 (by decide), i33]; exact b3
    · obtain ⟨c1, c2, c3, c4⟩ := y1 q
      rw [yLab_eq, if_pos c4]
      exact ⟨(c1.k (f2.2 13 (by decide)) (f2.2 14 (by decide)) (f2.2 15 (by decide)) (f2.2 35 (by decide)) (f2.1 34 (by decide)) (f2.1 32 (by decide)) (f2.1 18 (by decide)) : YN ρ2 m (yLn d n)), c2.add (by rw [i31]; exact l31) x2 c1.2.2.2.2.1, (c3.k (f2.1 23 (by decide)) (f2.2 19 (by decide)) (f2.2 20 (by decide)) (f2.2 22 (by decide)) : YU ρ2 (pU (yLn d n) []))⟩
  · have A : ∀ x : Nat, zA τ 0 x = zA ρ 0 x := fun x => f.2 x (by simp)
    refine hQ τ ⟨r.1, by rw [f.1 17 (by decide), A 12]; exact b1, (f.1 33 (by decide)).trans b3, fun q => ?_⟩ (f.up (by decide) (by decide)) r.2 (by rw [f.1 31 (by decide)]; omega)
    obtain ⟨c1, c2, c3⟩ := b4 q
    have nn := c1.1 n hn.1 (by rw [← b1.1]; exact hn.2.2)
    rw [yLab_eq, if_neg (by rw [← nn.1]; exact z)]
    exact ⟨c1.bad f (by decide) (by decide) r18, (c2.k (f.1 31 (by decide)) (A 24) (A 25) (A 26) (A 28)).w rfl, by rw [pU_nil (d := d) (e := yB d) rfl]; exact c3.k (f.1 23 (by decide)) (A 19) (A 20) (A 22)⟩
/-- both at the head of a statement -/
def HdI (h : Int → Int) (L : Int) (E M : Int → Int) (τ ρ : ZS) : Prop := SY h L E τ (zI τ 14 4) ρ ∧ RB τ ρ (M (zI τ 14 4)) [] ∧ Itm ρ
theorem t_label {h : Int → Int} {L : Int} {E M : Int → Int} {σ : ZS} {Q : Int → ZS → Prop} (hP : PS σ) (hC : CT h L E M σ) (hz : 2 * zI σ 13 7 ≤ zA σ 12 2 (zI σ 14 4)) (t3 : zA σ 12 0 (zI σ 14 4) = 3)
    (h1 : ∀ τ : ZS, PS τ → kp [5, 6, 13, 14] σ τ → zI τ 14 4 = zI σ 14 4 + 1 + 1 → 2 * zI τ 13 7 ≤ zA σ 12 2 (zI τ 14 4) → (∀ (ρ : ZS) (Qr : Int → ZS → Prop), HdI h L E M σ ρ → (∀ ρ' : ZS, HdI h L E M τ ρ' → PR ρ ρ' → wpX11_item_50 ρ' Qr) → wpX11_item ρ Qr) → Q 1 τ)
    (h0 : ∀ τ : ZS, PS τ → kp [5, 6, 13, 14] σ τ → (∀ (ρ : ZS) (Qr : Int → ZS → Prop), HdI h L E M σ ρ → (∀ ρ' : ZS, GG ρ' → PR ρ ρ' → Qr 0 ρ') → wpX11_item ρ Qr) → Q 0 τ) : wpX8_label σ Q := by
  have o := hP.2.2.2.1
  have tk := hP.tk
  obtain ⟨t1, t2, t3', t4⟩ := tk
  have t4' := t4 t3
  have on : PG σ (zsI σ 14 4 (zI σ 14 4 + 1)) := (PG.rf hP).on (by omega)
  have i0 := hP.2.2.1.1
  have i1 : zI σ 14 4 < zI σ 12 3 := by have := hP.2.2.1; omega
  have j1 := hC.on i0 i1 (show zA σ 12 0 (zI σ 14 4) ≠ 0 by omega)
  have p1 := (hC.pl i0 i1 (show zA σ 12 0 (zI σ 14 4) ≠ 0 by omega)).1
  -- the reference, with its name
  have road : ∀ (ρ : ZS) (Qr : Int → ZS → Prop), zI σ 14 5 = 1 → HdI h L E M σ ρ → (∀ b d : ZS, SY h L E σ (zI σ 14 4 + 1) d → RBd σ (yS σ) d (M (zI σ 14 4 + 1)) [] → Fresh d → PR ρ d → zI d 0 31 + 2 ≤ 2 * zI d 0 6 → 6 * zI d 0 34 ≤ zI d 0 6 → 7 * cntP (zA d 0 19) (zI d 0 23).toNat ≤ zI d 0 6 → (0 ≤ zA σ 12 1 (zI σ 14 4) ∧ zA σ 12 1 (zI σ 14 4) < 240 ∧ zA σ 12 1 (zI σ 14 4) < zI d 0 17) → (0 ≤ zI b 0 6 ∧ zI b 0 6 ≤ 480) → wpX11_take 58 d (fun x34 σ35 => (-2147483648 ≤ x34 ∧ x34 ≤ 2147483647) ∧ (¬ x34 = 0 → wpX11_label (zA σ 12 1 (zI σ 14 4)) (zI b 0 6) σ35 (fun σ39 => wpX11_item_50 σ39 Qr)) ∧ (x34 = 0 → Qr 0 σ35))) → wpX11_item ρ Qr := by
    intro ρ Qr o1 hd k
    obtain ⟨rS, rB, gG, gF, g31, g34, g7⟩ := hd
    have e33 : zI ρ 0 33 = 1 := by rw [rB.2.2.1]; exact o1
    unfold wpX11_item
    refine r_isName gG.2.1 rS (fun _ => ⟨by decide, fun q => absurd q (by decide), fun _ => ⟨by omega, fun _ => ?_, fun q => by omega⟩⟩) (fun q => absurd t3 q)
    refine r_name hC i0 i1 rS rB gF t3 (fun b bS bB fb pb bn => ?_)
    have b6 := fb.1 6 (by decide); have b31 := fb.1 31 (by decide); have b34 := fb.1 34 (by decide); have b23 := fb.1 23 (by decide); have b19 := fb.2 19 (by decide)
    have hLb := bB.1.2.1
    obtain ⟨k1, k2, -⟩ := hLb
    refine r_nextD hC i0 i1 bS bB.d (by omega) (fun d dS dB dF fd pd d6 d5 => ?_)
    have d31 := fd.1 31 (by decide); have d34 := fd.1 34 (by decide); have d23 := fd.1 23 (by decide); have d19 := fd.2 19 (by decide); have d17 := fd.1 17 (by decide)
    refine k b d dS dB dF (pb.tr pd) (by omega) (by omega) (by rw [d19, d23, b19, b23]; omega) (by omega) (by omega)
  have qa : zI (zsI σ 14 4 (zI σ 14 4 + 1)) 14 4 = zI σ 14 4 + 1 := zI_s
  have q11 : ob (zsI σ 14 4 (zI σ 14 4 + 1)) 11 = ob σ 11 := ob_i (by decide)
  have q12 : ob (zsI σ 14 4 (zI σ 14 4 + 1)) 12 = ob σ 12 := ob_i (by decide)
  have q13 : ob (zsI σ 14 4 (zI σ 14 4 + 1)) 13 = ob σ 13 := ob_i (by decide)
  have s58 : cS 58 := by unfold cS; omega
  unfold wpX8_label wpX8_addNamed
  refine ⟨by omega, fun n0 => c_take on.1 (by decide) (fun e p => ⟨by decide, fun _ => ⟨hP.at, ?_⟩, fun q => absurd q (by decide)⟩) (fun ne => ⟨by decide, fun q => absurd rfl q, fun _ => h0 _ on.1 on.2.1 (fun ρ Qr hd k0 => ?_)⟩), fun z0 => h0 σ hP kp.rf (fun ρ Qr hd k0 => ?_)⟩
  · rw [qa] at e
    have e' : zA σ 12 0 (zI σ 14 4 + 1) = 58 := e
    have on2 := on.on (show zA (zsI σ 14 4 (zI σ 14 4 + 1)) 12 0 (zI (zsI σ 14 4 (zI σ 14 4 + 1)) 14 4) ≠ 0 by rw [qa]; show zA σ 12 0 (zI σ 14 4 + 1) ≠ 0; omega)
    have ra : zI (zsI (zsI σ 14 4 (zI σ 14 4 + 1)) 14 4 (zI (zsI σ 14 4 (zI σ 14 4 + 1)) 14 4 + 1)) 14 4 = zI σ 14 4 + 1 + 1 := by rw [zI_s, qa]
    have k1 := hC.on (i := zI σ 14 4 + 1) (by omega) j1 (by omega)
    have p2 := (hC.pl (i := zI σ 14 4 + 1) (by omega) j1 (by omega)).1
    refine x_add on2.1 ⟨by decide, by decide, ⟨?_, t4'⟩, ?_, by decide, fun _ _ _ => t2.1, fun _ => t3'.1, fun q => absurd q (by decide), fun q => absurd q (by decide), fun q => absurd q (by decide)⟩ (Or.inr (Or.inr (Or.inr ?_))) ?_ (fun τ tp tk _ ts ty => ?_)
    · show -1 ≤ zA σ 12 1 (zI σ 14 4)
      omega
    · show -1 ≤ zA σ 12 2 (zI σ 14 4) ∧ zA σ 12 2 (zI σ 14 4) ≤ 480
      omega
    · show zI σ 14 5 = 1
      omega
    · show zI σ 13 7 < 248
      omega
    have ta : zI τ 14 4 = zI σ 14 4 + 1 + 1 := (tk.I (by decide) 4).trans ra
    have T11 : ob τ 11 = ob σ 11 := (tk 11 (by decide)).trans ((ob_i (by decide)).trans q11)
    have T12 : ob τ 12 = ob σ 12 := (tk 12 (by decide)).trans ((ob_i (by decide)).trans q12)
    have T5 : zI τ 14 5 = zI σ 14 5 := (tk.I (by decide) 5).trans ((zI_f (by decide)).trans (zI_f (by decide)))
    have ts' : zI τ 13 7 = zI σ 13 7 + 1 := ts
    have ty' : yS τ = yLab (yS σ) (zA σ 12 1 (zI σ 14 4)) := by
      rw [ty, yS.k ((ob_i (by decide)).trans q13)]
      rfl
    refine h1 τ tp (on2.2.1.tr (tk.up (by decide))) ta (by rw [ta]; omega) (fun ρ Qr hd k => road ρ Qr (by omega) hd (fun b d dS dB dF dp d31 d34 d7 dn db => ?_))
    refine r_take (i := zI σ 14 4 + 1) (m := M (zI σ 14 4 + 1)) (pend := []) hC (by omega) j1 dS dB s58 (fun _ e eS eB eF fe pe e6 e5 => ⟨by decide, fun _ => ?_, fun q => absurd q (by decide)⟩) (fun q => absurd e' q)
    have e31 := fe.1 31 (by decide); have e34 := fe.1 34 (by decide); have e23 := fe.1 23 (by decide); have e19 := fe.2 19 (by decide); have e17 := fe.1 17 (by decide)
    have e33 : zI e 0 33 = 1 := by rw [eB.2.2.1]; omega
    refine r_label eB.d e33 (by omega) (by omega) db (fun υ uB uf up u31 => k υ ⟨?_, ?_, uB.1, ?_, ?_, ?_, ?_⟩ (dp.tr (pe.tr up)))
    · rw [ta]
      exact (eS.fr uf (by decide) (by decide) (by decide) (by decide) (by decide) (by decide) (by decide) (by decide)).k T11 T12
    · rw [ta, hC.m1 (by omega) j1 (by omega)]
      exact uB.b T11 T5 ty'
    · intro q
      rw [uf.1 7 (by decide)] at q
      rw [uf.1 17 (by decide), uf.1 6 (by decide), uf.1 23 (by decide)]
      exact eF q
    · rw [uf.1 6 (by decide)]; omega
    · rw [uf.1 34 (by decide), uf.1 6 (by decide)]; omega
    · rw [uf.2 19 (by decide), uf.1 23 (by decide), uf.1 6 (by decide), e19, e23]; omega
  · rw [qa] at ne
    have ne' : zA σ 12 0 (zI σ 14 4 + 1) ≠ 58 := ne
    refine road ρ Qr (by omega) hd (fun b d dS dB dF dp d31 d34 d7 dn db => ?_)
    exact r_take (i := zI σ 14 4 + 1) (m := M (zI σ 14 4 + 1)) (pend := []) hC (by omega) j1 dS dB s58 (fun q => absurd q ne') (fun _ => ⟨by decide, fun q => absurd rfl q, fun _ => k0 _ (GG_34 dB.1) (dp.tr PR_fault)⟩)
  · obtain ⟨rS, rB, gG, gF, -⟩ := hd
    have e33 : zI ρ 0 33 = 0 := by rw [rB.2.2.1]; exact z0
    unfold wpX11_item
    exact r_isName gG.2.1 rS (fun _ => ⟨by decide, fun q => absurd q (by decide), fun _ => ⟨by omega, fun q => absurd e33 q, fun _ => s_fault ⟨by decide, k0 _ (GG_34 gG) PR_fault⟩⟩⟩) (fun q => absurd t3 q)
