/-! X: what the reference has noted, as a walk over the class's items -/
/-- uses: kinds, names, segments, how many -/
def UD : Type := (Int → Int) × (Int → Int) × (Int → Int) × Int
def UD.uk (u : UD) : Int → Int := u.1
def UD.un (u : UD) : Int → Int := u.2.1
def UD.us (u : UD) : Int → Int := u.2.2.1
def UD.nu (u : UD) : Int := u.2.2.2
/-- sorts, segments and aligns of names; names of segments, how many, the one that is open; whether a name is wrong; uses; pieces -/
def YD : Type := ((Int → Int) × (Int → Int) × (Int → Int)) × ((Int → Int) × Int × Int) × Prop × UD × (Int → Int) × (Int → Int) × (Int → Int) × (Int → Int) × Int
def YD.so (d : YD) : Int → Int := d.1.1
def YD.sg (d : YD) : Int → Int := d.1.2.1
def YD.al (d : YD) : Int → Int := d.1.2.2
def YD.sn (d : YD) : Int → Int := d.2.1.1
def YD.ns (d : YD) : Int := d.2.1.2.1
def YD.cur (d : YD) : Int := d.2.1.2.2
def YD.bad (d : YD) : Prop := d.2.2.1
def YD.u (d : YD) : UD := d.2.2.2.1
def YD.pk (d : YD) : Int → Int := d.2.2.2.2.1
def YD.pa (d : YD) : Int → Int := d.2.2.2.2.2.1
def YD.pb (d : YD) : Int → Int := d.2.2.2.2.2.2.1
def YD.ps (d : YD) : Int → Int := d.2.2.2.2.2.2.2.1
def YD.np (d : YD) : Int := d.2.2.2.2.2.2.2.2
def uA (u : UD) (c k n : Int) : UD := (zu u.uk u.nu k, zu u.un u.nu n, zu u.us u.nu c, u.nu + 1)
def yU (d : YD) (k n : Int) : YD := (d.1, d.2.1, d.2.2.1, uA d.u d.cur k n, d.2.2.2.2)
def yP (d : YD) (k a b : Int) : YD := (d.1, d.2.1, d.2.2.1, d.u, zu d.pk d.np k, zu d.pa d.np a, zu d.pb d.np b, zu d.ps d.np d.cur, d.np + 1)
def yB (d : YD) : YD := (d.1, d.2.1, True, d.2.2.2)
def yLab (d : YD) (n : Int) : YD := if d.so n = 0 then yP ((zu d.so n 2, zu d.sg n d.cur, d.al), d.2) 7 n 0 else yB d
def ySeg (d : YD) (n a : Int) : YD := if 1 < d.so n ∨ (d.so n = 1 ∧ d.al n ≠ a) then yB d else if d.so n = 0 then ((zu d.so n 1, zu d.sg n d.ns, zu d.al n a), (zu d.sn d.ns n, d.ns + 1, d.ns), d.2.2) else (d.1, (d.sn, d.ns, d.sg n), d.2.2)
def yExt (d : YD) (n : Int) : YD := if d.so n = 0 then ((zu d.so n 3, d.sg, d.al), d.2) else yB d
/-- an item's work -/
def yI (d : YD) (t v n : Int) : YD := if t = 0 then ySeg d n v else if t = 1 then yLab d n else if t = 2 then yU d 0 n else if t = 3 then yExt d n else if t = 4 then yP d 0 v 0 else if t = 5 then yP d 8 v 0 else if t = 6 then yP d 1 v 0 else if t = 7 then yP (yU d 1 n) 2 n v else if t = 8 then yP (yU d 1 n) 3 n 0 else if t = 9 then yP (yU d 3 n) 4 n 0 else if t = 10 then yP (yU d 2 n) 5 n v else if t = 11 then yP (yU d 3 n) 6 n 0 else yP (yP (yP (yU d 4 n) 0 154 0) 2 n 0) 3 n 0
def yD0 : YD := ((fun _ => 0, fun _ => -1, fun _ => 0), (fun _ => 0, 0, -1), False, (fun _ => 0, fun _ => 0, fun _ => 0, 0), fun _ => 0, fun _ => 0, fun _ => 0, fun _ => 0, 0)
def yF (a b c : Int → Int) : Nat → YD
  | 0 => yD0
  | k + 1 => yI (yF a b c k) (a k) (b k) (c k)
theorem yF_cg {a b c a' b' c' : Int → Int} : ∀ k : Nat, (∀ j : Nat, j < k → a j = a' j ∧ b j = b' j ∧ c j = c' j) → yF a b c k = yF a' b' c' k
  | 0, _ => rfl
  | k + 1, h => by
    obtain ⟨h1, h2, h3⟩ := h k (by omega)
    show yI (yF a b c k) (a k) (b k) (c k) = yI (yF a' b' c' k) (a' k) (b' k) (c' k)
    rw [yF_cg k (fun j hj => h j (by omega)), h1, h2, h3]
/-- all items of the class -/
def yS (σ : ZS) : YD := yF (zA σ 13 0) (zA σ 13 1) (zA σ 13 2) (zI σ 13 7).toNat
theorem yS.k {σ τ : ZS} (e : ob τ 13 = ob σ 13) : yS τ = yS σ := by
  unfold yS; rw [ob_I e 7, ob_A e 0, ob_A e 1, ob_A e 2]
/-- the uses noted -/
def YU (ρ : ZS) (u : UD) : Prop := zI ρ 0 23 = u.nu ∧ ∀ i : Int, 0 ≤ i → i < u.nu → zA ρ 0 19 i = u.uk i ∧ zA ρ 0 20 i = u.un i ∧ zA ρ 0 22 i = u.us i
/-- names and segments noted -/
def YN (ρ : ZS) (m : Int) (d : YD) : Prop := (∀ n : Int, 0 ≤ n → n < m → zA ρ 0 13 n = d.so n ∧ (d.so n = 1 ∨ d.so n = 2 → zA ρ 0 14 n = d.sg n) ∧ (d.so n = 1 → zA ρ 0 15 n = d.al n)) ∧ (∀ n : Int, m ≤ n → d.so n = 0) ∧ zI ρ 0 34 = d.ns ∧ (∀ s : Int, 0 ≤ s → s < d.ns → zA ρ 0 35 s = d.sn s) ∧ zI ρ 0 32 = d.cur ∧ (zI ρ 0 18 < 0 ↔ ¬ d.bad)
/-- the pieces noted -/
def YP (ρ : ZS) (d : YD) : Prop := zI ρ 0 31 = d.np ∧ ∀ p : Int, 0 ≤ p → p < d.np → zA ρ 0 24 p = d.pk p ∧ zA ρ 0 25 p = d.pa p ∧ zA ρ 0 26 p = d.pb p ∧ zA ρ 0 28 p = d.ps p
/-- an item is added -/
theorem x_add {σ : ZS} {t v n p w : Int} {Q : ZS → Prop} (h : PS σ) (hi : IT (zI σ 11 5) t v n p w) (ho : t = 0 ∨ t = 2 ∨ t = 3 ∨ zI σ 14 5 = 1) (hs : zI σ 13 7 < 248) (hQ : ∀ τ : ZS, PS τ → kp [13] σ τ → (zI τ 13 7 = 248 ∨ ∃ j : Int, 0 ≤ j ∧ j < zI τ 13 7 ∧ zA τ 13 0 j = t) → zI τ 13 7 = zI σ 13 7 + 1 → yS τ = yI (yS σ) t v n → Q τ) : wpX0_add t v n p w σ Q := by
  have g := c_add (Q := fun τ => PS τ ∧ kp [13] σ τ ∧ (zI τ 13 7 = 248 ∨ ∃ j : Int, 0 ≤ j ∧ j < zI τ 13 7 ∧ zA τ 13 0 j = t)) h hi ho (fun τ a b c => ⟨a, b, c⟩)
  unfold wpX0_add wpX0_add_92 at g ⊢
  refine ⟨g.1, fun q => absurd q (by omega), fun q => ⟨(g.2.2 q).1, ?_⟩⟩
  obtain ⟨g1, g2, g3⟩ := (g.2.2 q).2
  have h0 := (g.2.2 q).1
  refine hQ _ g1 g2 g3 rfl ?_
  show yF (zu (zA σ 13 0) (zI σ 13 7) t) (zu (zA σ 13 1) (zI σ 13 7) v) (zu (zA σ 13 2) (zI σ 13 7) n) (zI σ 13 7 + 1).toNat = _
  rw [show (zI σ 13 7 + 1).toNat = (zI σ 13 7).toNat + 1 by omega]
  show yI _ (zu (zA σ 13 0) (zI σ 13 7) t ((zI σ 13 7).toNat : Int)) (zu (zA σ 13 1) (zI σ 13 7) v ((zI σ 13 7).toNat : Int)) (zu (zA σ 13 2) (zI σ 13 7) n ((zI σ 13 7).toNat : Int)) = _
  rw [show ((zI σ 13 7).toNat : Int) = zI σ 13 7 by omega, pu_eq, pu_eq, pu_eq, yF_cg (zI σ 13 7).toNat (fun j hj => ⟨pu_ne (by omega), pu_ne (by omega), pu_ne (by omega)⟩)]
  rfl
/-- the reference's name -/
def xNm (σ : ZS) (n : Int) (τ : ZS) : Prop := (n < zI σ 0 17 ∧ zA σ 0 12 n = zI σ 0 8 ∧ τ = σ) ∨ (n = zI σ 0 17 ∧ (∀ j : Int, 0 ≤ j → j < zI σ 0 17 → zA σ 0 12 j ≠ zI σ 0 8) ∧ zI τ 0 17 = zI σ 0 17 + 1 ∧ zA τ 0 12 = zu (zA σ 0 12) n (zI σ 0 8) ∧ zA τ 0 13 = zu (zA σ 0 13) n 0 ∧ (zI σ 0 17 + 1 ≤ 24 → zI τ 0 18 = zI σ 0 18))
theorem x_name {σ : ZS} {Q : Int → ZS → Prop} (hG : GG σ) (ht : zI σ 0 7 = 1) (hF : Fresh σ) (hQ : ∀ (n : Int) (τ : ZS), 0 ≤ n → n < 240 → n < zI τ 0 17 → GG τ → PR σ τ → fr [17, 18] [12, 13] σ τ → xNm σ n τ → Q n τ) : wpX11_name σ Q := by
  have hG0 := hG
  obtain ⟨hT, hL, hk, hn, hw, h1, h2, h3, h4, h5, h6⟩ := hG
  have hL0 := hL
  obtain ⟨l1, l2, l3, l4, l5, l6, l7, l8, l9, l10, l11, l12, l13, l14, l15, l16, l17, l18, l19⟩ := hL
  have hf := hF ht
  have hst := hk.2.1 (by omega)
  unfold wpX11_name wpX11_name_2
  refine lfp1_ind (fun k _ => (240 - k).toNat) (fun k τ => τ = σ ∧ 0 ≤ k ∧ k ≤ zI σ 0 17 ∧ ∀ j : Int, 0 ≤ j → j < k → zA σ 0 12 j ≠ zI σ 0 8) ?_ ⟨rfl, by omega, by omega, fun j a b => by omega⟩
  intro P k τ hI hP
  obtain ⟨rfl, hk0, hk1, hfs⟩ := hI
  have hfin : (k < zI τ 0 17 → zA τ 0 12 k = zI τ 0 8 → wpX11_name_30 k τ Q) ∧ (k = zI τ 0 17 → wpX11_name_30 k τ Q) := by
    constructor
    · intro hlt hwe
      unfold wpX11_name_30 wpX11_name_82
      exact ⟨by omega, by omega, fun _ => hQ k τ hk0 (by omega) hlt hG0 PR.rf fr.rf (Or.inl ⟨hlt, hwe, rfl⟩), fun q => by omega⟩
    · intro heq
      unfold wpX11_name_30 wpX11_name_82
      have hfr : fr [17, 18] [12, 13] τ (zsI (zsA (zsA τ 0 12 k (zI τ 0 8)) 0 13 k 0) 0 17 (zI τ 0 17 + 1)) := ((fr.rf.ta (by decide)).ta (by decide)).ti (by decide)
      have hPR : PR τ (zsI (zsA (zsA τ 0 12 k (zI τ 0 8)) 0 13 k 0) 0 17 (zI τ 0 17 + 1)) := ⟨hfr.up (by decide) (by decide), Int.le_refl _, Int.le_refl _, Int.le_refl _, fun _ _ _ => ⟨rfl, rfl⟩, fun h => h, (by show zI τ 0 17 ≤ zI τ 0 17 + 1; omega), Int.le_refl _⟩
      have a13 : ∀ n : Int, n ≠ k → zA (zsI (zsA (zsA τ 0 12 k (zI τ 0 8)) 0 13 k 0) 0 17 (zI τ 0 17 + 1)) 0 13 n = zA τ 0 13 n := fun n hne => pu_ne (h := zA τ 0 13) hne
      have a13k : zA (zsI (zsA (zsA τ 0 12 k (zI τ 0 8)) 0 13 k 0) 0 17 (zI τ 0 17 + 1)) 0 13 k = 0 := pu_eq (h := zA τ 0 13)
      have hGA1 : G1 (zsI (zsA (zsA τ 0 12 k (zI τ 0 8)) 0 13 k 0) 0 17 (zI τ 0 17 + 1)) := by
        intro n n0 n1
        obtain ⟨q1, q2, q3, q4⟩ := h1 n n0 n1
        refine ⟨?_, q2, q3, ?_⟩
        · by_cases e : n = k
          · rw [e, a13k]; omega
          · rw [a13 n e]; exact q1
        · show 0 ≤ zu (zA τ 0 12) k (zI τ 0 8) n ∧ zu (zA τ 0 12) k (zI τ 0 8) n ≤ 72057594037927936
          by_cases e : n = k
          · rw [e, pu_eq]; omega
          · rw [pu_ne e]; exact q4
      have hGA4 : G4 (zsI (zsA (zsA τ 0 12 k (zI τ 0 8)) 0 13 k 0) 0 17 (zI τ 0 17 + 1)) := by
        refine ⟨h4.1, fun s s0 s1 => ?_, fun n n0 n1 => ?_⟩
        · obtain ⟨q1, q2, q3, q4⟩ := h4.2.1 s s0 s1
          refine ⟨?_, ?_, q3, q4⟩
          · show zA τ 0 35 s < zI τ 0 17 + 1
            omega
          · show zA (zsI (zsA (zsA τ 0 12 k (zI τ 0 8)) 0 13 k 0) 0 17 (zI τ 0 17 + 1)) 0 13 (zA τ 0 35 s) = 1
            rw [a13 _ (by omega)]; exact q2
        · have n1' : n < zI τ 0 17 + 1 := n1
          by_cases e : n = k
          · rw [e, a13k]; exact ⟨fun q => absurd q (by decide), fun q => absurd q (by decide)⟩
          · rw [a13 n e]; exact h4.2.2 n n0 (by omega)
      have hGA5 : G5 (zsI (zsA (zsA τ 0 12 k (zI τ 0 8)) 0 13 k 0) 0 17 (zI τ 0 17 + 1)) := ⟨fun u u0 u1 => by
        have := h5.1 u u0 u1
        show zA τ 0 20 u < zI τ 0 17 + 1
        omega, h5.2⟩
      have hGA6 : G6 (zsI (zsA (zsA τ 0 12 k (zI τ 0 8)) 0 13 k 0) 0 17 (zI τ 0 17 + 1)) := fun hwr => ⟨(h6 hwr).1, fun n n0 n1 => by
        have n1' : n < zI τ 0 17 + 1 := n1
        by_cases e : n = k
        · rw [e, a13k]; exact fun q => absurd q (by decide)
        · rw [a13 n e]; exact (h6 hwr).2 n n0 (by omega)⟩
      have hLL : GL (zsI (zsA (zsA τ 0 12 k (zI τ 0 8)) 0 13 k 0) 0 17 (zI τ 0 17 + 1)) := ⟨l1, l2, l3, l4, l5, l6, (by show 0 ≤ zI τ 0 17 + 1 ∧ 2 * (zI τ 0 17 + 1) ≤ zI τ 0 5 + 1; omega), l8, l9, l10, l11, l12, l13, l14, l15, l16, l17, l18, l19⟩
      have hnn : Gn (zsI (zsA (zsA τ 0 12 k (zI τ 0 8)) 0 13 k 0) 0 17 (zI τ 0 17 + 1)) := fun _ t => absurd ht t
      refine ⟨by omega, by omega, fun q => absurd heq q, fun _ => ⟨by omega, by omega, fun h24 => ?_, fun h24 => ?_⟩⟩
      · refine hQ k _ hk0 (by omega) (by show k < zI τ 0 17 + 1; omega) ⟨hT, hLL, hk, hnn, ⟨fun _ => h24, hw.2⟩, hGA1, h2, h3, hGA4, hGA5, hGA6⟩ hPR hfr (Or.inr ⟨heq, fun j j0 j1 => hfs j j0 (by omega), rfl, rfl, rfl, fun _ => rfl⟩)
      · refine s_wrongAt hLL (by omega) (fun w w0 w1 => ?_)
        have hLw : GL (zsI (zsI (zsA (zsA τ 0 12 k (zI τ 0 8)) 0 13 k 0) 0 17 (zI τ 0 17 + 1)) 0 18 w) := ⟨l1, l2, l3, l4, l5, l6, (by show 0 ≤ zI τ 0 17 + 1 ∧ 2 * (zI τ 0 17 + 1) ≤ zI τ 0 5 + 1; omega), l8, l9, l10, l11, l12, (by show -1 ≤ w ∧ w ≤ 480; omega), l14, l15, l16, l17, l18, l19⟩
        have nw : ¬ zI (zsI (zsI (zsA (zsA τ 0 12 k (zI τ 0 8)) 0 13 k 0) 0 17 (zI τ 0 17 + 1)) 0 18 w) 0 18 < 0 := by show ¬ w < 0; omega
        refine hQ k _ hk0 (by omega) (by show k < zI τ 0 17 + 1; omega) ⟨hT, hLw, hk, hnn, ⟨fun q => absurd q nw, fun q => absurd q nw⟩, hGA1, h2, h3, hGA4, hGA5, fun q => absurd q nw⟩ (hPR.tr (PR_18 w0)) (hfr.ti (by decide)) (Or.inr ⟨heq, fun j j0 j1 => hfs j j0 (by omega), rfl, rfl, rfl, fun q => absurd q h24⟩)
  unfold wpbX11_name_2
  have hkn : k < zI τ 0 17 → 0 ≤ zA τ 0 12 k ∧ zA τ 0 12 k ≤ 72057594037927936 := fun q => (h1 k hk0 (by omega)).2.2.2
  refine ⟨by omega, by omega, fun q => hfin.2 (by omega), fun q => ⟨by omega, ?_, by omega, fun qe => hfin.1 (by omega) qe, fun qn => hP _ _ ⟨rfl, by omega, by omega, fun j j0 j1 => by
    by_cases ej : j = k
    · rw [ej]; exact qn
    · exact hfs j j0 (by omega)⟩ (by omega)⟩⟩
  have := hkn (by omega)
  omega
/-- the reference's use -/
def xU (σ τ : ZS) (a n : Int) : Prop := zI τ 0 23 = zI σ 0 23 + 1 ∧ zA τ 0 19 = zu (zA σ 0 19) (zI σ 0 23) a ∧ zA τ 0 20 = zu (zA σ 0 20) (zI σ 0 23) n ∧ zA τ 0 22 = zu (zA σ 0 22) (zI σ 0 23) (zI σ 0 32)
theorem x_use {σ : ZS} {a n p : Int} {Q : ZS → Prop} (hG : GG σ) (ha : 0 ≤ a ∧ a ≤ 4) (hn : 0 ≤ n ∧ n < 240 ∧ n < zI σ 0 17) (hp : 0 ≤ p ∧ p ≤ 480) (hu : zI σ 0 23 + 1 ≤ zI σ 0 5 ∧ zI σ 0 23 < 480) (hc : a = 0 → 7 * (cntP (zA σ 0 19) (zI σ 0 23).toNat + 1) ≤ zI σ 0 5) (hQ : ∀ τ : ZS, GG τ → PR σ τ → fr [23] [19, 20, 21, 22] σ τ → (a = 1 ∨ a = 4 → hasUse τ n) → xU σ τ a n → Q τ) : wpX11_use a n p σ Q := by
  have g := s_use (Q := fun τ => GG τ ∧ PR σ τ ∧ fr [23] [19, 20, 21, 22] σ τ ∧ (a = 1 ∨ a = 4 → hasUse τ n)) hG ha hn hp hu hc (fun τ a b c d e => ⟨a, b, c, e⟩)
  unfold wpX11_use at g ⊢
  obtain ⟨g0, g1, g2, g3, g4⟩ := g
  exact ⟨g0, hQ _ g1 g2 g3 g4 ⟨rfl, rfl, rfl, rfl⟩⟩
theorem YU.add {ρ τ : ZS} {u : UD} {c k n : Int} (h : YU ρ u) (h0 : 0 ≤ zI ρ 0 23) (hx : xU ρ τ k n) (hc : zI ρ 0 32 = c) : YU τ (uA u c k n) := by
  obtain ⟨x1, x2, x3, x4⟩ := hx
  refine ⟨by rw [x1, h.1]; rfl, fun i i0 i1 => ?_⟩
  have i1' : i < u.nu + 1 := i1
  rw [x2, x3, x4]
  show _ = zu u.uk u.nu k i ∧ _ = zu u.un u.nu n i ∧ _ = zu u.us u.nu c i
  rw [h.1]
  by_cases e : i = u.nu
  · rw [e, pu_eq, pu_eq, pu_eq, pu_eq, pu_eq, pu_eq, hc]; exact ⟨rfl, rfl, rfl⟩
  · rw [pu_ne e, pu_ne e, pu_ne e, pu_ne e, pu_ne e, pu_ne e]; exact h.2 i i0 (by omega)
theorem YU.k {ρ τ : ZS} {u : UD} (h : YU ρ u) (e23 : zI τ 0 23 = zI ρ 0 23) (e19 : zA τ 0 19 = zA ρ 0 19) (e20 : zA τ 0 20 = zA ρ 0 20) (e22 : zA τ 0 22 = zA ρ 0 22) : YU τ u := by
  unfold YU; rw [e23, e19, e20, e22]; exact h
theorem YN.k {ρ τ : ZS} {m : Int} {d : YD} (h : YN ρ m d) (e13 : zA τ 0 13 = zA ρ 0 13) (e14 : zA τ 0 14 = zA ρ 0 14) (e15 : zA τ 0 15 = zA ρ 0 15) (e35 : zA τ 0 35 = zA ρ 0 35) (e34 : zI τ 0 34 = zI ρ 0 34) (e32 : zI τ 0 32 = zI ρ 0 32) (e18 : zI τ 0 18 = zI ρ 0 18) : YN τ m d := by
  unfold YN; rw [e13, e14, e15, e35, e34, e32, e18]; exact h
theorem YP.k {ρ τ : ZS} {d : YD} (h : YP ρ d) (e31 : zI τ 0 31 = zI ρ 0 31) (e24 : zA τ 0 24 = zA ρ 0 24) (e25 : zA τ 0 25 = zA ρ 0 25) (e26 : zA τ 0 26 = zA ρ 0 26) (e28 : zA τ 0 28 = zA ρ 0 28) : YP τ d := by
  unfold YP; rw [e31, e24, e25, e26, e28]; exact h
/-- the reference's piece -/
def xP (σ τ : ZS) (k a b : Int) : Prop := zI τ 0 31 = zI σ 0 31 + 1 ∧ zA τ 0 24 = zu (zA σ 0 24) (zI σ 0 31) k ∧ zA τ 0 25 = zu (zA σ 0 25) (zI σ 0 31) a ∧ zA τ 0 26 = zu (zA σ 0 26) (zI σ 0 31) b ∧ zA τ 0 28 = zu (zA σ 0 28) (zI σ 0 31) (zI σ 0 32)
theorem x_piece {σ : ZS} {k a b p : Int} {Q : ZS → Prop} (hG : GG σ) (hs : zI σ 0 33 = 1) (hp9 : zI σ 0 31 + 1 ≤ 2 * zI σ 0 6 + 8) (hk9 : 0 ≤ k ∧ k ≤ 8) (hn : 2 ≤ k → k ≤ 7 → 0 ≤ a ∧ a < 240) (h8 : k = 8 → 0 ≤ a ∧ a ≤ 64) (ha : -20000000 ≤ a ∧ a ≤ 20000000) (hb : -20000000 ≤ b ∧ b ≤ 20000000) (hp : 0 ≤ p ∧ p ≤ 480) (hu : k = 2 ∨ k = 3 → hasUse σ a) (hQ : ∀ τ : ZS, Em 1 σ τ → xP σ τ k a b → Q τ) : wpX11_piece k a b p σ Q := by
  have g := s_piece (Q := fun τ => Em 1 σ τ) hG hs hp9 hk9 hn h8 ha hb hp hu (fun τ a => a)
  unfold wpX11_piece at g ⊢
  exact ⟨g.1, hQ _ g.2 ⟨rfl, rfl, rfl, rfl, rfl⟩⟩
theorem x_octet {σ : ZS} {b : Int} {Q : ZS → Prop} (hG : GG σ) (hs : zI σ 0 33 = 1) (hp9 : zI σ 0 31 + 1 ≤ 2 * zI σ 0 6 + 8) (hb : -20000000 ≤ b ∧ b ≤ 20000000) (hQ : ∀ τ : ZS, Em 1 σ τ → xP σ τ 0 b 0 → Q τ) : wpX11_octet b σ Q := by
  unfold wpX11_octet
  exact x_piece hG hs hp9 (by decide) (fun q => absurd q (by decide)) (fun q => absurd q (by decide)) hb (by decide) (by decide) (fun q => by omega) hQ
theorem YP.add {ρ τ : ZS} {d : YD} {k a b : Int} (h : YP ρ d) (h0 : 0 ≤ zI ρ 0 31) (hx : xP ρ τ k a b) (hc : zI ρ 0 32 = d.cur) : YP τ (yP d k a b) := by
  obtain ⟨x1, x2, x3, x4, x5⟩ := hx
  refine ⟨by rw [x1, h.1]; rfl, fun i i0 i1 => ?_⟩
  have i1' : i < d.np + 1 := i1
  rw [x2, x3, x4, x5]
  show _ = zu d.pk d.np k i ∧ _ = zu d.pa d.np a i ∧ _ = zu d.pb d.np b i ∧ _ = zu d.ps d.np d.cur i
  rw [h.1]
  by_cases e : i = d.np
  · rw [e, pu_eq, pu_eq, pu_eq, pu_eq, pu_eq, pu_eq, pu_eq, pu_eq, hc]; exact ⟨rfl, rfl, rfl, rfl⟩
  · rw [pu_ne e, pu_ne e, pu_ne e, pu_ne e, pu_ne e, pu_ne e, pu_ne e, pu_ne e]; exact h.2 i i0 (by omega)
