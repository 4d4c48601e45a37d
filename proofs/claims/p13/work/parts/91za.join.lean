/-! X: names that are declared, on both sides -/
theorem x_wrong {p : Int} {σ : ZS} {R Q : ZS → Prop} (hp : 0 ≤ p) (g : wpX11_wrongAt p σ R) (hQ : ∀ τ : ZS, R τ → 0 ≤ zI τ 0 18 → fr [18] [] σ τ → Q τ) : wpX11_wrongAt p σ Q := by
  unfold wpX11_wrongAt wpX11_wrongAt_15 wpX11_wrongAt_20 at g ⊢
  exact ⟨g.1, fun q => hQ _ (g.2.1 q) (show 0 ≤ p from hp) (fr.rf.ti (by decide)), fun q => ⟨(g.2.2 q).1, fun q' => hQ _ ((g.2.2 q).2.1 q') (by omega) fr.rf, fun q' => hQ _ ((g.2.2 q).2.2 q') (show 0 ≤ p from hp) (fr.rf.ti (by decide))⟩⟩
/-- the reference opens a segment -/
def xO (σ τ : ZS) (n a : Int) : Prop := ((1 < zA σ 0 13 n ∨ (zA σ 0 13 n = 1 ∧ zA σ 0 15 n ≠ a)) ∧ 0 ≤ zI τ 0 18 ∧ fr [18, 33] [] σ τ) ∨ (zA σ 0 13 n = 0 ∧ fr [32, 33, 34] [13, 14, 15, 35] σ τ ∧ zA τ 0 13 = zu (zA σ 0 13) n 1 ∧ zA τ 0 15 = zu (zA σ 0 15) n a ∧ zA τ 0 14 = zu (zA σ 0 14) n (zI σ 0 34) ∧ zA τ 0 35 = zu (zA σ 0 35) (zI σ 0 34) n ∧ zI τ 0 34 = zI σ 0 34 + 1 ∧ zI τ 0 32 = zI σ 0 34) ∨ (zA σ 0 13 n = 1 ∧ zA σ 0 15 n = a ∧ fr [32, 33] [] σ τ ∧ zI τ 0 32 = zA σ 0 14 n)
theorem x_open {σ : ZS} {n a p : Int} {Q : ZS → Prop} (hG : GG σ) (hn : 0 ≤ n ∧ n < 240 ∧ n < zI σ 0 17) (ha : 1 ≤ a ∧ a ≤ 16) (hp : 0 ≤ p ∧ p ≤ 480) (hsg : zI σ 0 34 < 80 ∧ 6 * (zI σ 0 34 + 1) ≤ zI σ 0 5) (hQ : ∀ τ : ZS, GG τ → PR σ τ → zI τ 0 33 = 1 → fr [18, 32, 33, 34] [13, 14, 15, 35] σ τ → xO σ τ n a → Q τ) : wpX11_open n a p (zsI σ 0 33 1) Q := by
  have so := (hG.2.2.2.2.2.1 n hn.1 hn.2.1).1
  have g := s_open (Q := fun τ => GG τ ∧ PR σ τ) hG hn ha hp hsg (fun τ a b _ _ => ⟨a, b⟩)
  have f30 : (1 < zA σ 0 13 n ∨ (zA σ 0 13 n = 1 ∧ zA σ 0 15 n ≠ a)) → wpX11_open_30 p (zsI σ 0 33 1) (fun τ => GG τ ∧ PR σ τ) → wpX11_open_30 p (zsI σ 0 33 1) Q := by
    intro hs k
    unfold wpX11_open_30 at k ⊢
    refine x_wrong hp.1 k (fun τ r r18 f => ?_)
    have f' : fr [18, 33] [] σ τ := (fr.i (by decide)).tr (f.up (by decide) (by decide))
    exact hQ τ r.1 r.2 (f.1 33 (by decide)) (f'.up (by decide) (by decide)) (Or.inl ⟨hs, r18, f'⟩)
  have f36 : (zA σ 0 13 n = 0 ∨ (zA σ 0 13 n = 1 ∧ zA σ 0 15 n = a)) → wpX11_open_36 n a (zsI σ 0 33 1) (fun τ => GG τ ∧ PR σ τ) → wpX11_open_36 n a (zsI σ 0 33 1) Q := by
    intro hs k
    unfold wpX11_open_36 wpX11_open_89 at k ⊢
    refine ⟨k.1, k.2.1, fun q => ⟨(k.2.2.1 q).1, ?_⟩, fun q => ⟨(k.2.2.2 q).1, (k.2.2.2 q).2.1, ?_⟩⟩
    · have q' : ¬ zA σ 0 13 n = 0 := q
      have r := (k.2.2.1 q).2
      have f' : fr [32, 33] [] σ (zsI (zsI σ 0 33 1) 0 32 (zA (zsI σ 0 33 1) 0 14 n)) := (fr.rf.ti (by decide)).ti (by decide)
      exact hQ _ r.1 r.2 rfl (f'.up (by decide) (by decide)) (Or.inr (Or.inr ⟨by omega, by omega, f', rfl⟩))
    · have r := (k.2.2.2 q).2.2
      have f' : fr [32, 33, 34] [13, 14, 15, 35] σ (zsI (zsI (zsA (zsA (zsA (zsA (zsI σ 0 33 1) 0 13 n 1) 0 15 n a) 0 14 n (zI (zsI σ 0 33 1) 0 34)) 0 35 (zI (zsI σ 0 33 1) 0 34) n) 0 34 (zI (zsI σ 0 33 1) 0 34 + 1)) 0 32 (zA (zsI (zsA (zsA (zsA (zsA (zsI σ 0 33 1) 0 13 n 1) 0 15 n a) 0 14 n (zI (zsI σ 0 33 1) 0 34)) 0 35 (zI (zsI σ 0 33 1) 0 34) n) 0 34 (zI (zsI σ 0 33 1) 0 34 + 1)) 0 14 n)) := ((((((fr.rf.ti (by decide)).ta (by decide)).ta (by decide)).ta (by decide)).ta (by decide)).ti (by decide)).ti (by decide)
      exact hQ _ r.1 r.2 rfl (f'.up (by decide) (by decide)) (Or.inr (Or.inl ⟨q, f', rfl, rfl, rfl, rfl, rfl, pu_eq (h := zA σ 0 14)⟩))
  unfold wpX11_open at g ⊢
  refine ⟨g.1, g.2.1, fun q => f30 (Or.inl q) (g.2.2.1 q), fun q => ⟨fun q' => f36 ?_ ((g.2.2.2 q).1 q'), fun q' => ⟨((g.2.2.2 q).2 q').1, ((g.2.2.2 q).2 q').2.1, fun e => f36 (Or.inr ⟨q', e⟩) (((g.2.2.2 q).2 q').2.2.1 e), fun e => f30 (Or.inr ⟨q', e⟩) (((g.2.2.2 q).2 q').2.2.2 e)⟩⟩⟩
  have n1' : ¬ 1 < zA σ 0 13 n := q
  have n2' : ¬ zA σ 0 13 n = 1 := q'
  omega
def ySn (d : YD) (n a : Int) : YD := ((zu d.so n 1, zu d.sg n d.ns, zu d.al n a), (zu d.sn d.ns n, d.ns + 1, d.ns), d.2.2)
def ySo (d : YD) (n : Int) : YD := (d.1, (d.sn, d.ns, d.sg n), d.2.2)
theorem ySeg_eq (d : YD) (n a : Int) : ySeg d n a = if 1 < d.so n ∨ (d.so n = 1 ∧ d.al n ≠ a) then yB d else if d.so n = 0 then ySn d n a else ySo d n := rfl
def yEn (d : YD) (n : Int) : YD := ((zu d.so n 3, d.sg, d.al), d.2)
theorem yExt_eq (d : YD) (n : Int) : yExt d n = if d.so n = 0 then yEn d n else yB d := rfl
def yLn (d : YD) (n : Int) : YD := ((zu d.so n 2, zu d.sg n d.cur, d.al), d.2)
theorem yLab_eq (d : YD) (n : Int) : yLab d n = if d.so n = 0 then yP (yLn d n) 7 n 0 else yB d := rfl
theorem YN.bad {ρ τ : ZS} {m : Int} {d : YD} {fs : List Nat} (h : YN ρ m d) (f : fr fs [] ρ τ) (h34 : 34 ∉ fs) (h32 : 32 ∉ fs) (h18 : 0 ≤ zI τ 0 18) : YN τ m (yB d) := by
  obtain ⟨a, b, c, e, g, i⟩ := h
  have A : ∀ x : Nat, zA τ 0 x = zA ρ 0 x := fun x => f.2 x (by simp)
  refine ⟨by rw [A 13, A 14, A 15]; exact a, b, (f.1 34 h34).trans c, by rw [A 35]; exact e, (f.1 32 h32).trans g, ?_⟩
  show zI τ 0 18 < 0 ↔ ¬ True
  exact ⟨fun q => by omega, fun q => absurd trivial q⟩
theorem YN.opn {ρ τ : ZS} {m n a : Int} {d : YD} (h : YN ρ m d) (hn : 0 ≤ n ∧ n < m) (ns0 : 0 ≤ zI ρ 0 34) (x : xO ρ τ n a) : YN τ m (ySeg d n a) := by
  have h0 := h
  obtain ⟨hN, hZ, h34, h35, h32, h18⟩ := h
  have nn := hN n hn.1 hn.2
  rw [ySeg_eq]
  rcases x with ⟨x1, x2, x3⟩ | ⟨x1, f, x13, x15, x14, x35, x34, x32⟩ | ⟨x1, x2, f, x32⟩
  · rw [if_pos (by
      rcases x1 with x1 | ⟨x1, y1⟩
      · exact Or.inl (by rw [← nn.1]; exact x1)
      · have e : d.so n = 1 := by rw [← nn.1]; exact x1
        exact Or.inr ⟨e, fun q => y1 (by rw [nn.2.2 e]; exact q)⟩)]
    exact h0.bad x3 (by decide) (by decide) x2
  · have e0 : d.so n = 0 := by rw [← nn.1]; exact x1
    rw [if_neg (by rw [e0]; omega), if_pos e0]
    refine ⟨fun k k0 k1 => ?_, fun k k0 => ?_, ?_, fun s s0 s1 => ?_, ?_, ?_⟩
    · show zA τ 0 13 k = zu d.so n 1 k ∧ (zu d.so n 1 k = 1 ∨ zu d.so n 1 k = 2 → zA τ 0 14 k = zu d.sg n d.ns k) ∧ (zu d.so n 1 k = 1 → zA τ 0 15 k = zu d.al n a k)
      rw [x13, x14, x15]
      by_cases e : k = n
      · rw [e, pu_eq, pu_eq, pu_eq, pu_eq, pu_eq, pu_eq]
        exact ⟨rfl, fun _ => h34, fun _ => rfl⟩
      · rw [pu_ne e, pu_ne e, pu_ne e, pu_ne e, pu_ne e, pu_ne e]; exact hN k k0 k1
    · show zu d.so n 1 k = 0
      rw [pu_ne (by omega)]; exact hZ k k0
    · rw [x34, h34]; rfl
    · have s1' : s < d.ns + 1 := s1
      show zA τ 0 35 s = zu d.sn d.ns n s
      rw [x35, h34]
      by_cases e : s = d.ns
      · rw [e, pu_eq, pu_eq]
      · rw [pu_ne e, pu_ne e]; exact h35 s s0 (by omega)
    · rw [x32, h34]; rfl
    · rw [f.1 18 (by decide)]; exact h18
  · have e1 : d.so n = 1 := by rw [← nn.1]; exact x1
    have A : ∀ x : Nat, zA τ 0 x = zA ρ 0 x := fun x => f.2 x (by simp)
    rw [if_neg (by
      rintro (q | ⟨-, q⟩)
      · omega
      · exact q (by rw [← nn.2.2 e1]; exact x2)), if_neg (by omega)]
    refine ⟨by rw [A 13, A 14, A 15]; exact hN, hZ, (f.1 34 (by decide)).trans h34, by rw [A 35]; exact h35, ?_, by rw [f.1 18 (by decide)]; exact h18⟩
    show zI τ 0 32 = d.sg n
    rw [x32, nn.2.1 (Or.inl e1)]
theorem ySeg_p (d : YD) (n a : Int) : (ySeg d n a).2.2.2 = d.2.2.2 := by
  rw [ySeg_eq]
  split
  · rfl
  · split <;> rfl
theorem yExt_p (d : YD) (n : Int) : (yExt d n).2.2.2 = d.2.2.2 := by
  rw [yExt_eq]
  split <;> rfl
/-- the same uses and pieces -/
theorem YP.w {ρ : ZS} {d e : YD} (h : YP ρ d) (k : e.2.2.2 = d.2.2.2) : YP ρ e := by
  unfold YP YD.np YD.pk YD.pa YD.pb YD.ps at h ⊢
  rw [k]; exact h
theorem pU_nil {d e : YD} (k : e.2.2.2 = d.2.2.2) : pU e [] = pU d [] := by
  show e.u = d.u
  unfold YD.u
  rw [k]
theorem r_open {σ ρ : ZS} {d : YD} {m n a p : Int} {Q : ZS → Prop} (hB : RBd σ d ρ m []) (hn : 0 ≤ n ∧ n < 240 ∧ n < zI ρ 0 17) (ha : 1 ≤ a ∧ a ≤ 16) (hp : 0 ≤ p ∧ p ≤ 480) (hsg : zI ρ 0 34 < 80 ∧ 6 * (zI ρ 0 34 + 1) ≤ zI ρ 0 5) (hQ : ∀ τ : ZS, GG τ → (∀ σ' : ZS, ob σ' 11 = ob σ 11 → zI σ' 14 5 = 1 → RBd σ' (ySeg d n a) τ m []) → fr [18, 32, 33, 34] [13, 14, 15, 35] ρ τ → PR ρ τ → Q τ) : wpX11_open n a p (zsI ρ 0 33 1) Q := by
  obtain ⟨b0, b1, b3, b4⟩ := hB
  refine x_open b0 hn ha hp hsg (fun τ g pr e33 f x => hQ τ g (fun σ' e11 e5 => ⟨g, ?_, by rw [e33, e5], fun q => ?_⟩) f pr)
  · rw [f.1 17 (by decide), f.2 12 (by decide), ob_A e11 0]; exact b1
  · rw [ob_I e11 5] at q
    obtain ⟨c1, c2, c3⟩ := b4 q
    refine ⟨c1.opn ⟨hn.1, by rw [← b1.1]; exact hn.2.2⟩ (b0.2.1.2.2.2.2.2.2.2.2.2.1).1 x, (c2.k (f.1 31 (by decide)) (f.2 24 (by decide)) (f.2 25 (by decide)) (f.2 26 (by decide)) (f.2 28 (by decide))).w (ySeg_p d n a), ?_⟩
    rw [pU_nil (ySeg_p d n a)]
    exact c3.k (f.1 23 (by decide)) (f.2 19 (by decide)) (f.2 20 (by decide)) (f.2 22 (by decide))
/-- a name from elsewhere -/
theorem YN.ext {ρ : ZS} {m n : Int} {d : YD} (h : YN ρ m d) (hn : 0 ≤ n ∧ n < m) (z : zA ρ 0 13 n = 0) : YN (zsA ρ 0 13 n 3) m (yExt d n) := by
  obtain ⟨hN, hZ, h34, h35, h32, h18⟩ := h
  have nn := hN n hn.1 hn.2
  have e0 : d.so n = 0 := by rw [← nn.1]; exact z
  rw [yExt_eq, if_pos e0]
  refine ⟨fun k k0 k1 => ?_, fun k k0 => ?_, h34, h35, h32, h18⟩
  · show zu (zA ρ 0 13) n 3 k = zu d.so n 3 k ∧ (zu d.so n 3 k = 1 ∨ zu d.so n 3 k = 2 → zA ρ 0 14 k = d.sg k) ∧ (zu d.so n 3 k = 1 → zA ρ 0 15 k = d.al k)
    by_cases e : k = n
    · rw [e, pu_eq, pu_eq]; exact ⟨rfl, fun q => by omega, fun q => by omega⟩
    · rw [pu_ne e, pu_ne e]; exact hN k k0 k1
  · show zu d.so n 3 k = 0
    rw [pu_ne (by omega)]; exact hZ k k0
theorem r_ext {σ ρ : ZS} {d : YD} {m n p : Int} {Q : ZS → Prop} (hB : RBd σ d ρ m []) (hn : 0 ≤ n ∧ n < 240 ∧ n < zI ρ 0 17) (hp : 0 ≤ p ∧ p ≤ 480) (hQ : ∀ τ : ZS, RBd σ (yExt d n) τ m [] → fr [18] [13] ρ τ → PR ρ τ → Q τ) : (zA ρ 0 13 n = 0 → Q (zsA ρ 0 13 n 3)) ∧ (¬ zA ρ 0 13 n = 0 → wpX11_wrongAt p ρ Q) := by
  obtain ⟨b0, b1, b3, b4⟩ := hB
  refine ⟨fun z => ?_, fun z => ?_⟩
  · have f : fr [18] [13] ρ (zsA ρ 0 13 n 3) := fr.a (by decide)
    refine hQ _ ⟨GG_ext b0 hn z, b1, b3, fun q => ?_⟩ f ⟨fr.a (by decide), Int.le_refl _, Int.le_refl _, Int.le_refl _, fun _ _ _ => ⟨rfl, rfl⟩, fun h => h, Int.le_refl _, Int.le_refl _⟩
    obtain ⟨c1, c2, c3⟩ := b4 q
    refine ⟨c1.ext ⟨hn.1, by rw [← b1.1]; exact hn.2.2⟩ z, (c2.k (f.1 31 (by decide)) (f.2 24 (by decide)) (f.2 25 (by decide)) (f.2 26 (by decide)) (f.2 28 (by decide))).w (yExt_p d n), ?_⟩
    rw [pU_nil (yExt_p d n)]
    exact c3.k (f.1 23 (by decide)) (f.2 19 (by decide)) (f.2 20 (by decide)) (f.2 22 (by decide))
  · refine x_wrong (R := fun τ => GG τ ∧ PR ρ τ) hp.1 (s_wrongAt b0.2.1 hp (fun w w0 w1 => ⟨GG_18 b0 ⟨w0, w1⟩, PR_18 w0⟩)) (fun τ r r18 f => ?_)
    have A : ∀ x : Nat, zA τ 0 x = zA ρ 0 x := fun x => f.2 x (by simp)
    refine hQ τ ⟨r.1, by rw [f.1 17 (by decide), A 12]; exact b1, (f.1 33 (by decide)).trans b3, fun q => ?_⟩ (f.up (by decide) (by decide)) r.2
    obtain ⟨c1, c2, c3⟩ := b4 q
    have nn := c1.1 n hn.1 (by rw [← b1.1]; exact hn.2.2)
    refine ⟨?_, (c2.k (f.1 31 (by decide)) (A 24) (A 25) (A 26) (A 28)).w (yExt_p d n), ?_⟩
    · rw [yExt_eq, if_neg (by rw [← nn.1]; exact z)]
      exact c1.bad f (by decide) (by decide) r18
    · rw [pU_nil (yExt_p d n)]
      exact c3.k (f.1 23 (by decide)) (A 19) (A 20) (A 22)
/-! X: directives on both sides -/
/-- the reference's directive does the same, from its word on -/
def TSd (h : Int → Int) (L : Int) (E M : Int → Int) (σ τ : ZS) (x : Int) (W : ZS → (Int → ZS → Prop) → Prop) : Prop := ∀ (ρ : ZS) (Qr : Int → ZS → Prop), SY h L E σ (zI σ 14 4) ρ → RB σ ρ (M (zI σ 14 4)) [] → Itm ρ → (x = 1 → ∀ ρ' : ZS, SY h L E τ (zI τ 14 4) ρ' → RB τ ρ' (M (zI τ 14 4)) [] → Fresh ρ' → PR ρ ρ' → zI ρ' 0 31 ≤ 2 * zI ρ' 0 6 → Qr 1 ρ') → (x = 0 → ∀ ρ' : ZS, GG ρ' → PR ρ ρ' → Qr 0 ρ') → W ρ Qr
theorem TSi.d {h : Int → Int} {L x : Int} {E M : Int → Int} {σ τ : ZS} {W : ZS → (Int → ZS → Prop) → Prop} (k : TSi h L E M σ τ x W) : TSd h L E M σ τ x W := fun ρ Qr a b c h1 h0 => k ρ Qr a b c.2.1 c.2.2.1 h1 h0
theorem r_nextP {h : Int → Int} {L i m : Int} {E M : Int → Int} {σ ρ : ZS} {d : YD} {pend : List Int} {Q : ZS → Prop} (hC : CT h L E M σ) (i0 : 0 ≤ i) (i1 : i < zI σ 12 3) (hS : SY h L E σ i ρ) (hB : RBd σ d ρ m pend) (hn : zA σ 12 0 i ≠ 0) (hQ : ∀ τ : ZS, SY h L E σ (i + 1) τ → RBd σ d τ m pend → Fresh τ → fr [5, 6, 7, 8, 9, 10] [] ρ τ → PR ρ τ → zI ρ 0 6 + 1 ≤ zI τ 0 6 → zI ρ 0 5 ≤ zI τ 0 6 → (zI ρ 0 7 = 1 → zI τ 0 7 = 1 ∨ zI τ 0 7 = 2 → zI ρ 0 5 + 1 ≤ zI τ 0 6) → Q τ) : wpX11_next ρ Q := by
  have hG := hB.1
  refine s_nextG hG (fun τ g pr f nx s5 sp fs => ?_)
  have hi := hC.on i0 i1 hn
  have hlt := hG.2.2.1.2.1 (fun q => hn (hS.2.2.2.2.f.1.mpr q))
  exact hQ τ (SY_nxt hC.1.2.1 (by omega) hi hS.1 hS.2.1 hG.1.2.2 hC.2 hS.2.2.1 nx) (hB.fr g f) fs f pr (by omega) s5 sp
theorem r_use0 {h : Int → Int} {L i m n p : Int} {E : Int → Int} {σ ρ : ZS} {d : YD} {Q : ZS → Prop} (hS : SY h L E σ i ρ) (hB : RBd σ d ρ m []) (hn : 0 ≤ n ∧ n < 240 ∧ n < zI ρ 0 17) (hp : 0 ≤ p ∧ p ≤ 480) (hu : zI ρ 0 23 + 1 ≤ zI ρ 0 5 ∧ zI ρ 0 23 < 480) (hc : 7 * (cntP (zA ρ 0 19) (zI ρ 0 23).toNat + 1) ≤ zI ρ 0 5) (hQ : ∀ τ : ZS, SY h L E σ i τ → RBd σ (yU d 0 n) τ m [] → fr [23] [19, 20, 21, 22] ρ τ → PR ρ τ → zI τ 0 23 = zI ρ 0 23 + 1 → Q τ) : wpX11_use 0 n p ρ Q := by
  obtain ⟨hG, b1, b3, b4⟩ := hB
  refine x_use hG (by omega) hn hp hu (fun _ => hc) (fun τ g pr f hs hx => ?_)
  refine hQ τ (hS.fr f (by decide) (by decide) (by decide) (by decide) (by decide) (by decide) (by decide) (by decide)) ⟨g, ?_, ?_, fun q => ?_⟩ f pr hx.1
  · rw [f.1 17 (by decide), f.2 12 (by decide)]; exact b1
  · rw [f.1 33 (by decide)]; exact b3
  · obtain ⟨c1, c2, c3⟩ := b4 q
    exact ⟨(c1.k (f.2 13 (by decide)) (f.2 14 (by decide)) (f.2 15 (by decide)) (f.2 35 (by decide)) (f.1 34 (by decide)) (f.1 32 (by decide)) (f.1 18 (by decide)) : YN τ m d), (c2.k (f.1 31 (by decide)) (f.2 24 (by decide)) (f.2 25 (by decide)) (f.2 26 (by decide)) (f.2 28 (by decide)) : YP τ d), c3.add (by have := hG.2.1.2.2.2.2.2.2.2.1; omega) hx c1.2.2.2.2.1⟩
/-- what stands behind the name of a directive -/
def Dn (h : Int → Int) (L : Int) (E M : Int → Int) (σ ρ b δ : ZS) (n : Int) : Prop := SY h L E σ (zI σ 14 4 + 1 + 1) δ ∧ RBd σ (yS σ) δ (M (zI σ 14 4 + 1 + 1)) [] ∧ Fresh δ ∧ PR ρ δ ∧ zI δ 0 31 + 4 ≤ 2 * zI δ 0 6 ∧ (0 ≤ n ∧ n < 240 ∧ n < zI δ 0 17) ∧ (0 ≤ zI b 0 6 ∧ zI b 0 6 ≤ 480) ∧ (zI ρ 0 9 = 12 → zI δ 0 7 = 2 → zI δ 0 34 < 80 ∧ 6 * (zI δ 0 34 + 1) ≤ zI δ 0 5) ∧ (zI ρ 0 9 = 13 → 7 * (cntP (zA δ 0 19) (zI δ 0 23).toNat + 1) ≤ zI δ 0 5) ∧ (zI δ 0 23 + 1 ≤ zI δ 0 6 ∧ zI δ 0 23 < 480)
theorem r_dir {h : Int → Int} {L : Int} {E M : Int → Int} {σ ρ : ZS} {Qr : Int → ZS → Prop} (hP : PS σ) (hC : CT h L E M σ) (t6 : zA σ 12 0 (zI σ 14 4) = 6) (w2 : zA σ 12 1 (zI σ 14 4) ≤ 2) (hS : SY h L E σ (zI σ 14 4) ρ) (hB : RB σ ρ (M (zI σ 14 4)) []) (hI : Itm ρ) (h3 : zA σ 12 0 (zI σ 14 4 + 1) = 3 → ∀ b δ : ZS, Dn h L E M σ ρ b δ (zA σ 12 1 (zI σ 14 4 + 1)) → (¬ zI ρ 0 9 = 13 → wpX11_directive_60 (zI ρ 0 9) (zA σ 12 1 (zI σ 14 4 + 1)) (zI b 0 6) δ Qr) ∧ (zI ρ 0 9 = 13 → wpX11_use 0 (zA σ 12 1 (zI σ 14 4 + 1)) (zI b 0 6) δ (fun σ39 => wpX11_directive_60 (zI ρ 0 9) (zA σ 12 1 (zI σ 14 4 + 1)) (zI b 0 6) σ39 Qr))) (h0 : zA σ 12 0 (zI σ 14 4 + 1) ≠ 3 → ∀ ρ' : ZS, GG ρ' → PR ρ ρ' → Qr 0 ρ') : wpX11_directive ρ Qr := by
  have i0 := hP.2.2.1.1
  have i1 : zI σ 14 4 < zI σ 12 3 := by have := hP.2.2.1; omega
  have j1 := hC.on i0 i1 (show zA σ 12 0 (zI σ 14 4) ≠ 0 by omega)
  obtain ⟨hG, hF, hp, h6, h7⟩ := hI
  have hL := hG.2.1
  obtain ⟨l1, l2, l3, l4, l5, l6, l7, l8, l9, l10, -⟩ := hL
  have T := hS.2.2.2.2.f.2.2.2.2.2.2.2.2.1.mp t6
  have Tv := (hS.2.2.2.2.f.2.2.2.2.2.2.2.2.2.1 t6).1
  have ht := T.1
  have hlt := hG.2.2.1.2.1 (by omega)
  have h12 := hG.2.2.1.2.2.1 ht
  have h13 := hG.2.2.1.2.2.2.1 ht
  unfold wpX11_directive
  refine r_nextP hC i0 i1 hS hB.d (by omega) (fun a aS aB aF fa pa a6 a5 asep => ?_)
  have a31 := fa.1 31 (by decide); have a34 := fa.1 34 (by decide); have a23 := fa.1 23 (by decide); have a19 := fa.2 19 (by decide)
  have aB' : RB σ a (M (zI σ 14 4 + 1)) [] := by rw [hC.m1 i0 i1 (by omega)]; exact aB
  refine ⟨by omega, fun c15 => r_isName aB.1.2.1 aS (fun t3 => ⟨by decide, fun _ => ?_, fun q => absurd q (by decide)⟩) (fun t3 => ⟨by decide, fun q => absurd rfl q, fun _ => s_fault ⟨by decide, h0 t3 _ (GG_34 aB.1) (pa.tr PR_fault)⟩⟩), fun q => absurd q (by omega)⟩
  have t1 := (aS.2.2.2.2.f.2.2.2.1.mp t3).1
  have ga := aB.1
  have hLa := ga.2.1
  obtain ⟨k1, k2, k3, k4, k5, k6, k7, k8, k9, k10, -⟩ := hLa
  refine r_name hC (by omega) j1 aS aB' aF t3 (fun b bS bB fb pb bn => ?_)
  have b5 := fb.1 5 (by decide); have b6 := fb.1 6 (by decide); have b7 := fb.1 7 (by decide); have b31 := fb.1 31 (by decide); have b34 := fb.1 34 (by decide); have b23 := fb.1 23 (by decide); have b19 := fb.2 19 (by decide)
  refine r_nextP hC (by omega) j1 bS bB.d (by omega) (fun d dS dB dF fd pd d6 d5 dsep => h3 t3 b d ?_)
  have d31 := fd.1 31 (by decide); have d34 := fd.1 34 (by decide); have d23 := fd.1 23 (by decide); have d19 := fd.2 19 (by decide); have d17 := fd.1 17 (by decide)
  have hLd := dB.1.2.1
  obtain ⟨m1, m2, m3, m4, m5, m6, m7, m8, -⟩ := hLd
  have sepA := asep ht (Or.inl t1)
  have alt := ga.2.2.1.2.1 (by omega)
  have fF := aF t1
  refine ⟨dS, dB, dF, pa.tr (pb.tr pd), by omega, by omega, by omega, fun c t2 => ?_, fun c => ?_, by omega⟩
  · have q3 := h12 c
    have sepD := dsep (by omega) (Or.inr t2)
    omega
  · have q6 := h13 c
    rw [d19, d23, b19, b23, a19, a23]
    omega
/-- names shown, names from elsewhere -/
theorem t_decl {h : Int → Int} {L t : Int} {E M : Int → Int} {σ : ZS} {Q : Int → ZS → Prop} (hP : PS σ) (hC : CT h L E M σ) (hz : 2 * zI σ 13 7 ≤ zA σ 12 2 (zI σ 14 4)) (t6 : zA σ 12 0 (zI σ 14 4) = 6) (hw : (zA σ 12 1 (zI σ 14 4) = 1 ∧ t = 2) ∨ (zA σ 12 1 (zI σ 14 4) = 2 ∧ t = 3)) (hQ : ∀ (x : Int) (τ : ZS), CSi σ τ x → TSd h L E M σ τ x wpX11_directive → Q x τ) : wpX8_named t 0 (zsI σ 14 4 (zI σ 14 4 + 1)) Q := by
  have on : PG σ (zsI σ 14 4 (zI σ 14 4 + 1)) := (PG.rf hP).on (by omega)
  have i0 := hP.2.2.1.1
  have i1 : zI σ 14 4 < zI σ 12 3 := by have := hP.2.2.1; omega
  have j1 := hC.on i0 i1 (show zA σ 12 0 (zI σ 14 4) ≠ 0 by omega)
  have pb := hP.tk.2.2.1
  have p1 := (hC.pl i0 i1 (show zA σ 12 0 (zI σ 14 4) ≠ 0 by omega)).2 (Or.inr (Or.inr t6))
  have qa : zI (zsI σ 14 4 (zI σ 14 4 + 1)) 14 4 = zI σ 14 4 + 1 := zI_s
  have q11 : ob (zsI σ 14 4 (zI σ 14 4 + 1)) 11 = ob σ 11 := ob_i (by decide)
  have q12 : ob (zsI σ 14 4 (zI σ 14 4 + 1)) 12 = ob σ 12 := ob_i (by decide)
  have q13 : yS (zsI σ 14 4 (zI σ 14 4 + 1)) = yS σ := yS.k (ob_i (by decide))
  have hz1 : zI (zsI σ 14 4 (zI σ 14 4 + 1)) 13 7 < 248 := by
    show zI σ 13 7 < 248
    omega
  refine x_named on.1 (fun q => by omega) (by omega) (by decide) ⟨fun q => by omega, fun q => by omega⟩ (by omega) hz1 (fun t3 τ pg ta ts t11 t12 ty => hQ 1 τ ⟨by decide, pg.1, on.2.1.tr pg.2.1, fun _ => ?_⟩ (fun ρ Qr rS rB rI h1 h0 => ?_)) (fun t3 => hQ 0 _ ⟨by decide, on.1, on.2.1, fun q => absurd q (by decide)⟩ (fun ρ Qr rS rB rI h1 h0 => ?_))
  · have t3' : zA σ 12 0 (zI σ 14 4 + 1) = 3 := by rw [qa] at t3; exact t3
    have p2 := (hC.pl (i := zI σ 14 4 + 1) (by omega) j1 (by omega)).1
    rw [ta, qa]
    have ts' : zI τ 13 7 = zI σ 13 7 + 1 := ts
    omega
  · have t3' : zA σ 12 0 (zI σ 14 4 + 1) = 3 := by rw [qa] at t3; exact t3
    rw [q13, qa] at ty
    rw [qa] at ta
    have Tv := (rS.2.2.2.2.f.2.2.2.2.2.2.2.2.2.1 t6).1
    refine r_dir hP hC t6 (by omega) rS rB rI (fun _ b δ dn => ?_) (fun q => absurd t3' q)
    obtain ⟨dS, dB, dF, dp, d31, dn', db, -, d7, du⟩ := dn
    have done : ∀ ρ' : ZS, SY h L E σ (zI σ 14 4 + 1 + 1) ρ' → RBd σ (yI (yS σ) t 0 (zA σ 12 1 (zI σ 14 4 + 1))) ρ' (M (zI σ 14 4 + 1 + 1)) [] → Fresh ρ' → PR ρ ρ' → zI ρ' 0 31 ≤ 2 * zI ρ' 0 6 → wpX11_directive_90 (zI ρ 0 9) (zA σ 12 1 (zI σ 14 4 + 1)) (zI b 0 6) ρ' Qr := by
      intro ρ' s1 s2 s3 s4 s5
      unfold wpX11_directive_90
      refine ⟨by omega, fun q => by omega, fun _ => h1 rfl ρ' ?_ ?_ s3 s4 s5⟩
      · rw [ta]; exact s1.k (t11.trans q11) (t12.trans q12)
      · rw [ta]; exact s2.b (t11.trans q11) (on.tr pg).2.2 ty
    rcases hw with ⟨w, et⟩ | ⟨w, et⟩
    · refine ⟨fun q => by omega, fun c13 => ?_⟩
      have y6 := dB.1.2.1.2.1
      refine r_use0 dS dB dn' db (by omega) (d7 c13) (fun υ uS uB uf up u23 => ?_)
      have u6 := uf.1 6 (by decide); have u31 := uf.1 31 (by decide); have u7 := uf.1 7 (by decide); have u17 := uf.1 17 (by decide)
      unfold wpX11_directive_60
      refine ⟨by omega, fun _ => done υ uS (by rw [et]; exact uB) (fun q => ?_) (dp.tr up) (by omega), fun q => by omega⟩
      have := dF (by omega)
      omega
    · refine ⟨fun _ => ?_, fun q => by omega⟩
      have so := (dB.1.2.2.2.2.2.1 _ dn'.1 dn'.2.1).1
      unfold wpX11_directive_60
      refine ⟨by omega, fun q => by omega, fun _ => ⟨⟨dn'.1, dn'.2.1⟩, by omega, ?_⟩⟩
      refine r_ext (Q := fun σ24 => wpX11_directive_90 (zI ρ 0 9) (zA σ 12 1 (zI σ 14 4 + 1)) (zI b 0 6) σ24 Qr) dB dn' db (fun υ uB uf up => ?_)
      refine done υ (dS.fr uf (by decide) (by decide) (by decide) (by decide) (by decide) (by decide) (by decide) (by decide)) (by rw [et]; exact uB) ?_ (dp.tr up) ?_
      · intro q
        rw [uf.1 7 (by decide)] at q
        rw [uf.1 17 (by decide), uf.1 6 (by decide), uf.1 23 (by decide)]
        exact dF q
      · rw [uf.1 31 (by decide), uf.1 6 (by decide)]; omega
  · rw [qa] at t3
    have Tv := (rS.2.2.2.2.f.2.2.2.2.2.2.2.2.2.1 t6).1
    exact r_dir hP hC t6 (by omega) rS rB rI (fun q => absurd q t3) (fun _ => h0 rfl)
/-- seg -/
theorem t_seg {h : Int → Int} {L : Int} {E M : Int → Int} {σ : ZS} {Q : Int → ZS → Prop} (hP : PS σ) (hC : CT h L E M σ) (hz : 2 * zI σ 13 7 ≤ zA σ 12 2 (zI σ 14 4)) (t6 : zA σ 12 0 (zI σ 14 4) = 6) (hw : zA σ 12 1 (zI σ 14 4) = 0) (hQ : ∀ (x : Int) (τ : ZS), CSi σ τ x → TSd h L E M σ τ x wpX11_directive → Q x τ) : wpX8_seg (zsI σ 14 4 (zI σ 14 4 + 1)) Q := by
  have on : PG σ (zsI σ 14 4 (zI σ 14 4 + 1)) := (PG.rf hP).on (by omega)
  have i0 := hP.2.2.1.1
  have i1 : zI σ 14 4 < zI σ 12 3 := by have := hP.2.2.1; omega
  have j1 := hC.on i0 i1 (show zA σ 12 0 (zI σ 14 4) ≠ 0 by omega)
  have pb := hP.tk.2.2.1
  have p1 := (hC.pl i0 i1 (show zA σ 12 0 (zI σ 14 4) ≠ 0 by omega)).2 (Or.inr (Or.inr t6))
  obtain ⟨σ1, hσ1⟩ : ∃ τ, τ = zsI σ 14 4 (zI σ 14 4 + 1) := ⟨_, rfl⟩
  rw [← hσ1] at on ⊢
  have qa : zI σ1 14 4 = zI σ 14 4 + 1 := by rw [hσ1]; exact zI_s
  have q11 : ob σ1 11 = ob σ 11 := by rw [hσ1]; exact ob_i (by decide)
  have q12 : ob σ1 12 = ob σ 12 := by rw [hσ1]; exact ob_i (by decide)
  have q13 : ob σ1 13 = ob σ 13 := by rw [hσ1]; exact ob_i (by decide)
  clear hσ1
  have A : ∀ f : Nat, zA σ1 12 f = zA σ 12 f := fun f => ob_A q12 f
  have tk := on.1.tk
  rw [A, A, A, qa] at tk
  obtain ⟨t1, t2, t3, t4⟩ := tk
  have hat := on.1.at
  unfold wpX8_seg wpX8_seg_33
  refine c_take on.1 (by decide) (fun e p => ⟨by decide, fun _ => ?_, fun q => absurd q (by decide)⟩) (fun ne => ⟨by decide, fun q => absurd rfl q, fun _ => hQ 0 σ1 ⟨by decide, on.1, on.2.1, fun q => absurd q (by decide)⟩ (fun ρ Qr rS rB rI h1 h0 => ?_)⟩)
  rotate_left
  · rw [A, qa] at ne
    exact r_dir hP hC t6 (by omega) rS rB rI (fun q => absurd q ne) (fun _ => h0 rfl)
  rw [A, qa] at e
  have on2 := on.on (show zA σ1 12 0 (zI σ1 14 4) ≠ 0 by rw [A, qa]; omega)
  obtain ⟨σ2, hσ2⟩ : ∃ τ, τ = zsI σ1 14 4 (zI σ1 14 4 + 1) := ⟨_, rfl⟩
  rw [← hσ2] at on2 p ⊢
  have ra : zI σ2 14 4 = zI σ 14 4 + 1 + 1 := by rw [hσ2, zI_s, qa]
  have r11 : ob σ2 11 = ob σ 11 := by rw [hσ2]; exact (ob_i (by decide)).trans q11
  have r12 : ob σ2 12 = ob σ 12 := by rw [hσ2]; exact (ob_i (by decide)).trans q12
  have r13 : ob σ2 13 = ob σ 13 := by rw [hσ2]; exact (ob_i (by decide)).trans q13
  have B : ∀ f : Nat, zA σ2 12 f = zA σ 12 f := fun f => ob_A r12 f
  clear hσ2
  have t4' := t4 e
  have tk2 := p.tk
  rw [B, B, B, ra] at tk2
  obtain ⟨s1, s2, s3, s4⟩ := tk2
  have k1 := hC.on (i := zI σ 14 4 + 1) (by omega) j1 (by omega)
  have p2 := (hC.pl (i := zI σ 14 4 + 1) (by omega) j1 (by omega)).1
  -- the reference behind its name, where the class fails
  have fail : ¬ (zA σ 12 0 (zI σ 14 4 + 1 + 1) = 2 ∧ al (zA σ 12 1 (zI σ 14 4 + 1 + 1))) → Q 0 σ2 := by
    intro nal
    refine hQ 0 σ2 ⟨by decide, p, on2.2.1, fun q => absurd q (by decide)⟩ (fun ρ Qr rS rB rI h1 h0 => ?_)
    have Tv := (rS.2.2.2.2.f.2.2.2.2.2.2.2.2.2.1 t6).1
    refine r_dir hP hC t6 (by omega) rS rB rI (fun _ b δ dn => ⟨fun _ => ?_, fun q => by omega⟩) (fun q => absurd e q)
    obtain ⟨dS, dB, dF, dp, d31, dn', db, dsg, -, du⟩ := dn
    have T2 := dS.2.2.2.2.f.2.1
    have T2v := dS.2.2.2.2.f.2.2.1
    have l7 := dB.1.2.1.2.2.1
    have l10 := dB.1.2.1.2.2.2.2.1
    have bad : wpX11_directive_148 δ Qr := by
      unfold wpX11_directive_148
      exact s_fault ⟨by decide, h0 rfl _ (GG_34 dB.1) (dp.tr PR_fault)⟩
    unfold wpX11_directive_60 wpX11_directive_90
    have no : ∀ v : Int, al v → zI δ 0 7 = 2 → ¬ zI δ 0 10 = v := fun v hv q q' => nal ⟨T2.mpr q, by rw [← T2v (T2.mpr q), q']; exact hv⟩
    clear T2 T2v
    refine ⟨by omega, fun _ => ⟨by omega, fun _ => ⟨by omega, fun _ => bad, fun q => ⟨by omega, fun y => absurd y (no 1 (by unfold al; omega) q), fun _ => ⟨fun y => absurd y (no 2 (by unfold al; omega) q), fun _ => ⟨fun y => absurd y (no 4 (by unfold al; omega) q), fun _ => ⟨fun y => absurd y (no 8 (by unfold al; omega) q), fun _ => ⟨fun y => absurd y (no 16 (by unfold al; omega) q), fun _ => bad⟩⟩⟩⟩⟩⟩, fun q => by omega⟩, fun q => by omega⟩
  refine c_type p ⟨?_, fun n2 => fail (fun q => n2 (by rw [B, ra]; exact q.1)), fun e2 => c_value p (c_isAlign ?_ (fun a => ⟨by decide, fun _ => c_value p ?_, fun q => absurd q (by decide)⟩) (fun na => ⟨by decide, fun q => absurd rfl q, fun _ => fail (fun q => na (by rw [B, ra]; exact q.2))⟩))⟩
  · rw [B, ra]; omega
  · rw [B, ra]; exact s2
  rw [B, ra] at e2 a
  have hN5 : zI σ2 11 5 = zI σ 11 5 := ob_I r11 5
  unfold wpX8_addNamed
  rw [qa, B, B, ra]
  rw [ob_I q11 5] at t4'
  refine ⟨by rw [← qa]; exact hat, x_add p ⟨by decide, s2, ⟨by omega, by rw [hN5]; exact t4'⟩, by omega, by decide, fun _ _ _ => t2.1, fun _ => t3.1, fun q => absurd q (by decide), fun q => absurd q (by decide), fun _ => ⟨fun _ => a, fun q => absurd q (by decide), fun q => absurd q (by decide)⟩⟩ (Or.inl rfl) (by rw [ob_I r13 7]; omega) (fun τ tp tk ex ts ty => ?_)⟩
  have ta : zI τ 14 4 = zI σ 14 4 + 1 + 1 := (tk.I (by decide) 4).trans ra
  have T12 : ob τ 12 = ob σ 12 := (tk 12 (by decide)).trans r12
  have T11 : ob τ 11 = ob σ 11 := (tk 11 (by decide)).trans r11
  have onT := tp.on (show zA τ 12 0 (zI τ 14 4) ≠ 0 by rw [ob_A T12 0, ta]; omega)
  have opn := onT.op ex
  clear ex
  have p3 := (hC.pl (i := zI σ 14 4 + 1 + 1) (by omega) k1 (by omega)).1
  have ya : zI (zsI (zsI τ 14 4 (zI τ 14 4 + 1)) 14 5 1) 14 4 = zI σ 14 4 + 1 + 1 + 1 := by
    rw [show zI (zsI (zsI τ 14 4 (zI τ 14 4 + 1)) 14 5 1) 14 4 = zI τ 14 4 + 1 from (zI_f (by decide)).trans zI_s, ta]
  have y11 : ob (zsI (zsI τ 14 4 (zI τ 14 4 + 1)) 14 5 1) 11 = ob σ 11 := ((ob_i (by decide)).trans (ob_i (by decide))).trans T11
  have y12 : ob (zsI (zsI τ 14 4 (zI τ 14 4 + 1)) 14 5 1) 12 = ob σ 12 := ((ob_i (by decide)).trans (ob_i (by decide))).trans T12
  have y13 : yS (zsI (zsI τ 14 4 (zI τ 14 4 + 1)) 14 5 1) = ySeg (yS σ) (zA σ 12 1 (zI σ 14 4 + 1)) (zA σ 12 1 (zI σ 14 4 + 1 + 1)) := by
    rw [yS.k (τ := zsI (zsI τ 14 4 (zI τ 14 4 + 1)) 14 5 1) (σ := τ) ((ob_i (by decide)).trans (ob_i (by decide))), ty, yS.k r13]
    rfl
  refine hQ 1 _ ⟨by decide, opn, ((on2.2.1.tr (tk.up (by decide))).ti (by decide)).ti (by decide), fun _ => ?_⟩ (fun ρ Qr rS rB rI h1 h0 => ?_)
  · rw [ya]
    show 2 * zI τ 13 7 ≤ _ ∧ _
    rw [ts, ob_I r13 7]
    omega
  · have Tv := (rS.2.2.2.2.f.2.2.2.2.2.2.2.2.2.1 t6).1
    refine r_dir hP hC t6 (by omega) rS rB rI (fun _ b δ dn => ⟨fun _ => ?_, fun q => by omega⟩) (fun q => absurd e q)
    obtain ⟨dS, dB, dF, dp, d31, dn', db, dsg, -, du⟩ := dn
    have T2 := dS.2.2.2.2.f.2.1.mp e2
    have T2v := dS.2.2.2.2.f.2.2.1 e2
    have l7 := dB.1.2.1.2.2.1
    have l10 := dB.1.2.1.2.2.2.2.1
    have good : wpX11_directive_153 (zA σ 12 1 (zI σ 14 4 + 1)) (zI b 0 6) δ Qr := by
      unfold wpX11_directive_153
      rw [T2v]
      refine r_open dB dn' (by unfold al at a; omega) db (dsg (by omega) T2) (fun υ gu uB uf up => ?_)
      have uS := dS.fr uf (by decide) (by decide) (by decide) (by decide) (by decide) (by decide) (by decide) (by decide)
      have u31 := uf.1 31 (by decide); have u6 := uf.1 6 (by decide)
      refine r_nextD (hC.k y11 y12) (by omega) (by rw [ob_I y12 3]; exact k1) (uS.k y11 y12) (uB _ y11 (by rfl)) (by rw [ob_A y12 0]; omega) (fun γ gS gB gF gf gp g1 g2 => h1 rfl γ ?_ ?_ gF (dp.tr (up.tr gp)) ?_)
      · rw [ya]; exact gS
      · rw [ya, hC.m1 (by omega) k1 (by omega)]
        exact gB.b rfl rfl y13
      · have := gf.1 31 (by decide)
        omega
    unfold wpX11_directive_60 wpX11_directive_90
    refine ⟨by omega, fun _ => ⟨by omega, fun _ => ⟨by omega, fun q => absurd T2 q, fun q => ⟨by omega, fun y => good, fun m1 => ⟨fun y => good, fun m2 => ⟨fun y => good, fun m4 => ⟨fun y => good, fun m8 => ⟨fun y => good, fun m16 => ?_⟩⟩⟩⟩⟩⟩, fun q => by omega⟩, fun q => by omega⟩
    unfold al at a
    omega
/-! X: labels on both sides -/
theorem YN.lab {ρ : ZS} {m n : Int} {d : YD} (h : YN ρ m d) (hn : 0 ≤ n ∧ n < m) (z : zA ρ 0 13 n = 0) : YN (zsA (zsA ρ 0 13 n 2) 0 14 n (zI ρ 0 32)) m (yLn d n) := by
  obtain ⟨hN, hZ, h34, h35, h32, h18⟩ := h
  have nn := hN n hn.1 hn.2
  refine ⟨fun k k0 k1 => ?_, fun k k0 => ?_, h34, h35, h32, h18⟩
  · show zu (zA ρ 0 13) n 2 k = zu d.so n 2 k ∧ (zu d.so n 2 k = 1 ∨ zu d.so n 2 k = 2 → zu (zA ρ 0 14) n (zI ρ 0 32) k = zu d.sg n d.cur k) ∧ (zu d.so n 2 k = 1 → zA ρ 0 15 k = d.al k)
    by_cases e : k = n
    · rw [e, pu_eq, pu_eq, pu_eq, pu_eq]; exact ⟨rfl, fun _ => h32, fun q => absurd q (by decide)⟩
    · rw [pu_ne e, pu_ne e, pu_ne e, pu_ne e]; exact hN k k0 k1
  · show zu d.so n 2 k = 0
    rw [pu_ne (by omega)]; exact hZ k k0
theorem r_label {σ ρ : ZS} {d : YD} {m n p : Int} {Q : ZS → Prop} (hB : RBd σ d ρ m []) (hs : zI ρ 0 33 = 1) (hp9 : zI ρ 0 31 + 1 ≤ 2 * zI ρ 0 6 + 8) (hn : 0 ≤ n ∧ n < 240 ∧ n < zI ρ 0 17) (hp : 0 ≤ p ∧ p ≤ 480) (hQ : ∀ τ : ZS, RBd σ (yLab d n) τ m [] → fr [18, 31] (13 :: 14 :: EA) ρ τ → PR ρ τ → zI τ 0 31 ≤ zI ρ 0 31 + 1 → Q τ) : wpX11_label n p ρ Q := by
  have g := s_label (Q := fun τ => GG τ ∧ PR ρ τ) hB.1 hs hp9 hn hp (fun τ a b _ _ _ _ _ _ _ _ => ⟨a, b⟩)
  obtain ⟨b0, b1, b3, b4⟩ := hB
  unfold wpX11_label wpX11_piece at g ⊢
  refine ⟨g.1, g.2.1, fun z => ⟨(g.2.2.1 z).1, ?_⟩, fun z => x_wrong hp.1 (g.2.2.2 z) (fun τ r r18 f => ?_)⟩
  · have r := (g.2.2.1 z).2
    obtain ⟨ρ1, h1⟩ : ∃ τ, τ = zsA (zsA ρ 0 13 n 2) 0 14 n (zI ρ 0 32) := ⟨_, rfl⟩
    rw [← h1] at r ⊢
    have f1 : fr [18, 31] (13 :: 14 :: EA) ρ ρ1 := by rw [h1]; exact (fr.rf.ta (by decide)).ta (by decide)
    have y1 : zI σ 11 5 ≤ 24 → YN ρ1 m (yLn d n) ∧ YP ρ1 (yLn d n) ∧ YU ρ1 (pU (yLn d n) []) ∧ d.so n = 0 := by
      intro q
      obtain ⟨c1, c2, c3⟩ := b4 q
      have nn := c1.1 n hn.1 (by rw [← b1.1]; exact hn.2.2)
      rw [h1]
      exact ⟨c1.lab ⟨hn.1, by rw [← b1.1]; exact hn.2.2⟩ z, c2, c3, by rw [← nn.1]; exact z⟩
    have i31 : zI ρ1 0 31 = zI ρ 0 31 := by rw [h1]; rfl
    have i32 : zI ρ1 0 32 = zI ρ 0 32 := by rw [h1]; rfl
    have i17 : zI ρ1 0 17 = zI ρ 0 17 := by rw [h1]; rfl
    have i33 : zI ρ1 0 33 = zI ρ 0 33 := by rw [h1]; rfl
    have i12 : zA ρ1 0 12 = zA ρ 0 12 := by rw [h1]; rfl
    clear h1
    obtain ⟨ρ2, h2⟩ : ∃ τ, τ = zsI (zsA (zsA (zsA (zsA (zsA (zsA ρ1 0 24 (zI ρ1 0 31) 7) 0 25 (zI ρ1 0 31) n) 0 26 (zI ρ1 0 31) 0) 0 27 (zI ρ1 0 31) p) 0 28 (zI ρ1 0 31) (zI ρ1 0 32)) 0 30 (zI ρ1 0 31) 0) 0 31 (zI ρ1 0 31 + 1) := ⟨_, rfl⟩
    rw [← h2] at r ⊢
    have f2 : fr [31] EA ρ1 ρ2 := by rw [h2]; exact ((((((fr.rf.ta (by decide)).ta (by decide)).ta (by decide)).ta (by decide)).ta (by decide)).ta (by decide)).ti (by decide)
    have x2 : xP ρ1 ρ2 7 n 0 := by rw [h2]; exact ⟨rfl, rfl, rfl, rfl, rfl⟩
    clear h2
    have l31 := (b0.2.1.2.2.2.2.2.2.2.2.1).1
    refine hQ ρ2 ⟨r.1, ?_, ?_, fun q => ?_⟩ (f1.tr (f2.up (by decide) (by decide))) r.2 (by rw [x2.1, i31]; omega)
    · rw [f2.1 17 (by decide), f2.2 12 (by decide), i17, i12]; exact b1
    · rw [f2.1 33 (by decide), i33]; exact b3
    · obtain ⟨c1, c2, c3, c4⟩ := y1 q
      rw [yLab_eq, if_pos c4]
      exact ⟨(c1.k (f2.2 13 (by decide)) (f2.2 14 (by decide)) (f2.2 15 (by decide)) (f2.2 35 (by decide)) (f2.1 34 (by decide)) (f2.1 32 (by decide)) (f2.1 18 (by decide)) : YN ρ2 m (yLn d n)), c2.add (by rw [i31]; exact l31) x2 c1.2.2.2.2.1, (c3.k (f2.1 23 (by decide)) (f2.2 19 (by decide)) (f2.2 20 (by decide)) (f2.2 22 (by decide)) : YU ρ2 (pU (yLn d n) []))⟩
  · have A : ∀ x : Nat, zA τ 0 x = zA ρ 0 x := fun x => f.2 x (by simp)
    refine hQ τ ⟨r.1, by rw [f.1 17 (by decide), A 12]; exact b1, (f.1 33 (by decide)).trans b3, fun q => ?_⟩ (f.up (by decide) (by decide)) r.2 (by rw [f.1 31 (by decide)]; omega)
    obtain ⟨c1, c2, c3⟩ := b4 q
    have nn := c1.1 n hn.1 (by rw [← b1.1]; exact hn.2.2)
    rw [yLab_eq, if_neg (by rw [← nn.1]; exact z)]
    exact ⟨c1.bad f (by decide) (by decide) r18, (c2.k (f.1 31 (by decide)) (A 24) (A 25) (A 26) (A 28)).w rfl, by rw [pU_nil (d := d) (e := yB d) rfl]; exact c3.k (f.1 23 (by decide)) (A 19) (A 20) (A 22)⟩
/-- both at the head of a statement -/
def HdI (h : Int → Int) (L : Int) (E M : Int → Int) (τ ρ : ZS) : Prop := SY h L E τ (zI τ 14 4) ρ ∧ RB τ ρ (M (zI τ 14 4)) [] ∧ Itm ρ
theorem t_label {h : Int → Int} {L : Int} {E M : Int → Int} {σ : ZS} {Q : Int → ZS → Prop} (hP : PS σ) (hC : CT h L E M σ) (hz : 2 * zI σ 13 7 ≤ zA σ 12 2 (zI σ 14 4)) (t3 : zA σ 12 0 (zI σ 14 4) = 3)
    (h1 : ∀ τ : ZS, PS τ → kp [5, 6, 13, 14] σ τ → zI τ 14 4 = zI σ 14 4 + 1 + 1 → 2 * zI τ 13 7 ≤ zA σ 12 2 (zI τ 14 4) → (∀ (ρ : ZS) (Qr : Int → ZS → Prop), HdI h L E M σ ρ → (∀ ρ' : ZS, HdI h L E M τ ρ' → PR ρ ρ' → wpX11_item_50 ρ' Qr) → wpX11_item ρ Qr) → Q 1 τ)
    (h0 : ∀ τ : ZS, PS τ → kp [5, 6, 13, 14] σ τ → (∀ (ρ : ZS) (Qr : Int → ZS → Prop), HdI h L E M σ ρ → (∀ ρ' : ZS, GG ρ' → PR ρ ρ' → Qr 0 ρ') → wpX11_item ρ Qr) → Q 0 τ) : wpX8_label σ Q := by
  have o := hP.2.2.2.1
  have tk := hP.tk
  obtain ⟨t1, t2, t3', t4⟩ := tk
  have t4' := t4 t3
  have on : PG σ (zsI σ 14 4 (zI σ 14 4 + 1)) := (PG.rf hP).on (by omega)
  have i0 := hP.2.2.1.1
  have i1 : zI σ 14 4 < zI σ 12 3 := by have := hP.2.2.1; omega
  have j1 := hC.on i0 i1 (show zA σ 12 0 (zI σ 14 4) ≠ 0 by omega)
  have p1 := (hC.pl i0 i1 (show zA σ 12 0 (zI σ 14 4) ≠ 0 by omega)).1
  -- the reference, with its name
  have road : ∀ (ρ : ZS) (Qr : Int → ZS → Prop), zI σ 14 5 = 1 → HdI h L E M σ ρ → (∀ b d : ZS, SY h L E σ (zI σ 14 4 + 1) d → RBd σ (yS σ) d (M (zI σ 14 4 + 1)) [] → Fresh d → PR ρ d → zI d 0 31 + 2 ≤ 2 * zI d 0 6 → 6 * zI d 0 34 ≤ zI d 0 6 → 7 * cntP (zA d 0 19) (zI d 0 23).toNat ≤ zI d 0 6 → (0 ≤ zA σ 12 1 (zI σ 14 4) ∧ zA σ 12 1 (zI σ 14 4) < 240 ∧ zA σ 12 1 (zI σ 14 4) < zI d 0 17) → (0 ≤ zI b 0 6 ∧ zI b 0 6 ≤ 480) → wpX11_take 58 d (fun x34 σ35 => (-2147483648 ≤ x34 ∧ x34 ≤ 2147483647) ∧ (¬ x34 = 0 → wpX11_label (zA σ 12 1 (zI σ 14 4)) (zI b 0 6) σ35 (fun σ39 => wpX11_item_50 σ39 Qr)) ∧ (x34 = 0 → Qr 0 σ35))) → wpX11_item ρ Qr := by
    intro ρ Qr o1 hd k
    obtain ⟨rS, rB, gG, gF, g31, g34, g7⟩ := hd
    have e33 : zI ρ 0 33 = 1 := by rw [rB.2.2.1]; exact o1
    unfold wpX11_item
    refine r_isName gG.2.1 rS (fun _ => ⟨by decide, fun q => absurd q (by decide), fun _ => ⟨by omega, fun _ => ?_, fun q => by omega⟩⟩) (fun q => absurd t3 q)
    refine r_name hC i0 i1 rS rB gF t3 (fun b bS bB fb pb bn => ?_)
    have b6 := fb.1 6 (by decide); have b31 := fb.1 31 (by decide); have b34 := fb.1 34 (by decide); have b23 := fb.1 23 (by decide); have b19 := fb.2 19 (by decide)
    have hLb := bB.1.2.1
    obtain ⟨k1, k2, -⟩ := hLb
    refine r_nextD hC i0 i1 bS bB.d (by omega) (fun d dS dB dF fd pd d6 d5 => ?_)
    have d31 := fd.1 31 (by decide); have d34 := fd.1 34 (by decide); have d23 := fd.1 23 (by decide); have d19 := fd.2 19 (by decide); have d17 := fd.1 17 (by decide)
    refine k b d dS dB dF (pb.tr pd) (by omega) (by omega) (by rw [d19, d23, b19, b23]; omega) (by omega) (by omega)
  have qa : zI (zsI σ 14 4 (zI σ 14 4 + 1)) 14 4 = zI σ 14 4 + 1 := zI_s
  have q11 : ob (zsI σ 14 4 (zI σ 14 4 + 1)) 11 = ob σ 11 := ob_i (by decide)
  have q12 : ob (zsI σ 14 4 (zI σ 14 4 + 1)) 12 = ob σ 12 := ob_i (by decide)
  have q13 : ob (zsI σ 14 4 (zI σ 14 4 + 1)) 13 = ob σ 13 := ob_i (by decide)
  have s58 : cS 58 := by unfold cS; omega
  unfold wpX8_label wpX8_addNamed
  refine ⟨by omega, fun n0 => c_take on.1 (by decide) (fun e p => ⟨by decide, fun _ => ⟨hP.at, ?_⟩, fun q => absurd q (by decide)⟩) (fun ne => ⟨by decide, fun q => absurd rfl q, fun _ => h0 _ on.1 on.2.1 (fun ρ Qr hd k0 => ?_)⟩), fun z0 => h0 σ hP kp.rf (fun ρ Qr hd k0 => ?_)⟩
  · rw [qa] at e
    have e' : zA σ 12 0 (zI σ 14 4 + 1) = 58 := e
    have on2 := on.on (show zA (zsI σ 14 4 (zI σ 14 4 + 1)) 12 0 (zI (zsI σ 14 4 (zI σ 14 4 + 1)) 14 4) ≠ 0 by rw [qa]; show zA σ 12 0 (zI σ 14 4 + 1) ≠ 0; omega)
    have ra : zI (zsI (zsI σ 14 4 (zI σ 14 4 + 1)) 14 4 (zI (zsI σ 14 4 (zI σ 14 4 + 1)) 14 4 + 1)) 14 4 = zI σ 14 4 + 1 + 1 := by rw [zI_s, qa]
    have k1 := hC.on (i := zI σ 14 4 + 1) (by omega) j1 (by omega)
    have p2 := (hC.pl (i := zI σ 14 4 + 1) (by omega) j1 (by omega)).1
    refine x_add on2.1 ⟨by decide, by decide, ⟨?_, t4'⟩, ?_, by decide, fun _ _ _ => t2.1, fun _ => t3'.1, fun q => absurd q (by decide), fun q => absurd q (by decide), fun q => absurd q (by decide)⟩ (Or.inr (Or.inr (Or.inr ?_))) ?_ (fun τ tp tk _ ts ty => ?_)
    · show -1 ≤ zA σ 12 1 (zI σ 14 4)
      omega
    · show -1 ≤ zA σ 12 2 (zI σ 14 4) ∧ zA σ 12 2 (zI σ 14 4) ≤ 480
      omega
    · show zI σ 14 5 = 1
      omega
    · show zI σ 13 7 < 248
      omega
    have ta : zI τ 14 4 = zI σ 14 4 + 1 + 1 := (tk.I (by decide) 4).trans ra
    have T11 : ob τ 11 = ob σ 11 := (tk 11 (by decide)).trans ((ob_i (by decide)).trans q11)
    have T12 : ob τ 12 = ob σ 12 := (tk 12 (by decide)).trans ((ob_i (by decide)).trans q12)
    have T5 : zI τ 14 5 = zI σ 14 5 := (tk.I (by decide) 5).trans ((zI_f (by decide)).trans (zI_f (by decide)))
    have ts' : zI τ 13 7 = zI σ 13 7 + 1 := ts
    have ty' : yS τ = yLab (yS σ) (zA σ 12 1 (zI σ 14 4)) := by
      rw [ty, yS.k ((ob_i (by decide)).trans q13)]
      rfl
    refine h1 τ tp (on2.2.1.tr (tk.up (by decide))) ta (by rw [ta]; omega) (fun ρ Qr hd k => road ρ Qr (by omega) hd (fun b d dS dB dF dp d31 d34 d7 dn db => ?_))
    refine r_take (i := zI σ 14 4 + 1) (m := M (zI σ 14 4 + 1)) (pend := []) hC (by omega) j1 dS dB s58 (fun _ e eS eB eF fe pe e6 e5 => ⟨by decide, fun _ => ?_, fun q => absurd q (by decide)⟩) (fun q => absurd e' q)
    have e31 := fe.1 31 (by decide); have e34 := fe.1 34 (by decide); have e23 := fe.1 23 (by decide); have e19 := fe.2 19 (by decide); have e17 := fe.1 17 (by decide)
    have e33 : zI e 0 33 = 1 := by rw [eB.2.2.1]; omega
    refine r_label eB.d e33 (by omega) (by omega) db (fun υ uB uf up u31 => k υ ⟨?_, ?_, uB.1, ?_, ?_, ?_, ?_⟩ (dp.tr (pe.tr up)))
    · rw [ta]
      exact (eS.fr uf (by decide) (by decide) (by decide) (by decide) (by decide) (by decide) (by decide) (by decide)).k T11 T12
    · rw [ta, hC.m1 (by omega) j1 (by omega)]
      exact uB.b T11 T5 ty'
    · intro q
      rw [uf.1 7 (by decide)] at q
      rw [uf.1 17 (by decide), uf.1 6 (by decide), uf.1 23 (by decide)]
      exact eF q
    · rw [uf.1 6 (by decide)]; omega
    · rw [uf.1 34 (by decide), uf.1 6 (by decide)]; omega
    · rw [uf.2 19 (by decide), uf.1 23 (by decide), uf.1 6 (by decide), e19, e23]; omega
  · rw [qa] at ne
    have ne' : zA σ 12 0 (zI σ 14 4 + 1) ≠ 58 := ne
    refine road ρ Qr (by omega) hd (fun b d dS dB dF dp d31 d34 d7 dn db => ?_)
    exact r_take (i := zI σ 14 4 + 1) (m := M (zI σ 14 4 + 1)) (pend := []) hC (by omega) j1 dS dB s58 (fun q => absurd q ne') (fun _ => ⟨by decide, fun q => absurd rfl q, fun _ => k0 _ (GG_34 dB.1) (dp.tr PR_fault)⟩)
  · obtain ⟨rS, rB, gG, gF, -⟩ := hd
    have e33 : zI ρ 0 33 = 0 := by rw [rB.2.2.1]; exact z0
    unfold wpX11_item
    exact r_isName gG.2.1 rS (fun _ => ⟨by decide, fun q => absurd q (by decide), fun _ => ⟨by omega, fun q => absurd e33 q, fun _ => s_fault ⟨by decide, k0 _ (GG_34 gG) PR_fault⟩⟩⟩) (fun q => absurd t3 q)
/-! X: directives as a whole, the parse in step -/
/-- the reference behind a directive's word -/
def dC (σ σ26 : ZS) (Q : Int → ZS → Prop) : Prop := (-2147483648 ≤ (zI σ 0 9) ∧ (zI σ 0 9) ≤ 2147483647) ∧ ((zI σ 0 9) < 15 → wpX11_isName σ26 (fun (x29 : Int) (σ30 : ZS) => (-2147483648 ≤ x29 ∧ x29 ≤ 2147483647) ∧ (¬ x29 = 0 → wpX11_name σ30 (fun (x33 : Int) (σ34 : ZS) => wpX11_next σ34 (fun (σ36 : ZS) => (¬ (zI σ 0 9) = 13 → wpX11_directive_60 (zI σ 0 9) x33 (zI σ34 0 6) σ36 Q) ∧ ((zI σ 0 9) = 13 → wpX11_use 0 x33 (zI σ34 0 6) σ36 (fun (σ39 : ZS) => wpX11_directive_60 (zI σ 0 9) x33 (zI σ34 0 6) σ39 Q))))) ∧ (x29 = 0 → wpX11_fault σ30 (fun (x40 : Int) (σ41 : ZS) => (0 ≤ x40 ∧ x40 ≤ 1) ∧ Q x40 σ41)))) ∧ (¬ (zI σ 0 9) < 15 → wpX11_data (zI σ 0 9) σ26 (fun (x43 : Int) (σ44 : ZS) => (0 ≤ x43 ∧ x43 ≤ 1) ∧ Q x43 σ44))
theorem x_next0 {σ : ZS} {Q : ZS → Prop} (hA0 : PA0 σ) (i5 : zI σ 0 5 = 0) (i17 : zI σ 0 17 = 0) (i18 : zI σ 0 18 = -1) (i23 : zI σ 0 23 = 0) (i31 : zI σ 0 31 = 0) (i32 : zI σ 0 32 = -1) (i33 : zI σ 0 33 = 0) (i34 : zI σ 0 34 = 0) (hQ : ∀ τ : ZS, GG τ → fr [5, 6, 7, 8, 9, 10] [] σ τ → Itm τ → nxt σ τ → Q τ) : wpX11_next σ Q := by
  obtain ⟨hT, ⟨l4, l5, l6, l14, l15, l16, l17, l18⟩, h1, h2, h3, h41⟩ := hA0
  have l1 := hT.1
  have hA : GA σ := ⟨h1, h2, h3, ⟨h41, fun s a b => by omega, fun n a b => by omega⟩, ⟨fun u a b => by omega, fun p a b => by omega⟩, fun _ => ⟨fun p a b => by omega, fun n a b => by omega⟩⟩
  refine s_next hT (by omega) (fun τ hn => ?_)
  have hn0 := hn
  obtain ⟨hf, s, e, hrun, q6, q5, hcase⟩ := hn
  have e2 := hf.1 2 (by decide); have e17 := hf.1 17 (by decide); have e18 := hf.1 18 (by decide); have e23 := hf.1 23 (by decide); have e31 := hf.1 31 (by decide); have e32 := hf.1 32 (by decide); have e33 := hf.1 33 (by decide); have e34 := hf.1 34 (by decide)
  have e37 := hf.1 37 (by decide); have e38 := hf.1 38 (by decide); have e39 := hf.1 39 (by decide); have e41 := hf.1 41 (by decide); have e42 := hf.1 42 (by decide)
  have a1 : zA τ 0 1 = zA σ 0 1 := hf.2 1 (by decide)
  have hTt : Tx τ := hT.fr hf (by decide) (by decide) (by decide)
  obtain ⟨r1, r2, r3, r4⟩ := hrun
  have hch : ∀ j : Int, 0 ≤ j → j < zI σ 0 2 → 0 ≤ zA σ 0 1 j ∧ zA σ 0 1 j < 256 := fun j a b => by have := hT.2.1 j a b; omega
  have key : (s ≤ e ∧ e ≤ zI σ 0 2) ∧ (0 ≤ zI τ 0 7 ∧ zI τ 0 7 ≤ 126) ∧ (zI τ 0 7 = 0 → s = zI σ 0 2) ∧ (zI τ 0 7 ≠ 0 → s < e) ∧ (-1 ≤ zI τ 0 9 ∧ zI τ 0 9 ≤ 47) ∧ (zI τ 0 7 = 1 → zI τ 0 9 = 12 → s + 3 ≤ e) ∧ (zI τ 0 7 = 1 → zI τ 0 9 = 13 → s + 6 ≤ e) ∧ (0 ≤ zI τ 0 10 ∧ zI τ 0 10 ≤ 1000009) ∧ (0 ≤ zI τ 0 8 ∧ zI τ 0 8 ≤ 72057594037927936) ∧ (zI τ 0 7 = 1 → e = zI σ 0 2 ∨ ¬ (cL (zA σ 0 1 e) ∨ cD (zA σ 0 1 e))) ∧ (zI τ 0 7 = 1 ∨ zI τ 0 7 = 2 → s < zI σ 0 2 ∧ (cL (zA σ 0 1 s) ∨ cD (zA σ 0 1 s))) := by
    rcases hcase with ⟨c1, c2, c3, c4, c5, c6⟩ | ⟨c1, c2, c3, c4, c5, c6, c7⟩ | ⟨c1, c2, c3, c4, c5, c6, c7⟩ | ⟨c1, c2, c3, c4, c5, c6, c7, c8⟩
    · exact ⟨by omega, by omega, by omega, by omega, by omega, by omega, by omega, by omega, by omega, by omega, by omega⟩
    · obtain ⟨d1, d2, d3, d4⟩ := c3
      have hb := wv_bd (h := zA σ 0 1) (s := s) (min (e - s) 7).toNat (fun j a b => hch j (by omega) (by omega))
      have h7 : (256 : Int) ^ (min (e - s) 7).toNat ≤ 256 ^ 7 := p256 (by omega)
      have h77 : (256 : Int) ^ 7 = 72057594037927936 := by decide
      have hcode : -1 ≤ zI τ 0 9 ∧ zI τ 0 9 ≤ 47 := by
        rcases c6 with c6 | c6
        · have := c6.1; omega
        · have := c6.1; have := c6.2.1; omega
      have hlen : ∀ (k : Nat) (c : Int), zI τ 0 9 = c → 0 ≤ c → c < 48 → (256 : Int) ^ k ≤ zwords c → k < (min (e - s) 7).toNat := by
        intro k c k1 k2 k3 k4
        refine wv_len (h := zA σ 0 1) (s := s) (w := zI τ 0 8) k (fun j a b => hch j (by omega) (by omega)) c5 ?_
        rcases c6 with c6 | c6
        · have := c6.1; omega
        · have := c6.2.2.1
          rw [k1, hT.2.2 c k2 k3] at this
          omega
      refine ⟨by omega, by rw [c4]; split <;> omega, fun h => by rw [c4] at h; split at h <;> omega, fun _ => by omega, hcode, fun t1 t2 => ?_, fun t1 t2 => ?_, by omega, by rw [c5]; omega, fun _ => d4, fun _ => ⟨c1, Or.inl c2⟩⟩
      · have := hlen 2 12 t2 (by decide) (by decide) (by decide)
        omega
      · have := hlen 5 13 t2 (by decide) (by decide) (by decide)
        omega
    · obtain ⟨d1, d2, d3, d4⟩ := c3
      have hb := nv_bd (h := zA σ 0 1) (s := s) (e - s - 1).toNat (fun j a b => by
        by_cases q : j = s
        · rw [q]; exact c2
        · exact d3 j (by omega) (by omega))
      rw [← c4] at hb
      have t7 : zI τ 0 7 = 2 ∨ zI τ 0 7 = 9 := by
        rw [c5]; split
        · exact Or.inl rfl
        · exact Or.inr rfl
      clear d3 d4 c5
      exact ⟨by omega, by omega, by omega, by omega, by omega, by omega, by omega, by omega, by omega, by omega, fun _ => ⟨c1, Or.inr c2⟩⟩
    · have ht := hT.2.1 s (by omega) c1
      have t7 : zI τ 0 7 ≠ 0 ∧ zI τ 0 7 ≠ 1 ∧ zI τ 0 7 ≠ 2 ∧ 0 ≤ zI τ 0 7 ∧ zI τ 0 7 ≤ 126 := by
        rcases c5 with c5 | c5
        · have k1 := c5.1; have k2 := c5.2; unfold cS at k1; omega
        · have k2 := c5.2; omega
      clear c2 c3 c5
      exact ⟨by omega, by omega, by omega, by omega, by omega, by omega, by omega, by omega, by omega, by omega, by omega⟩
  clear hcase
  obtain ⟨k1, k2, k3, k4, k5, k6, k7, k8, k9, k10, k11⟩ := key
  have hc : 7 * cntP (zA τ 0 19) (zI τ 0 23).toNat = 0 := by rw [e23, i23]; rfl
  have hLt : GL τ := by
    unfold GL
    clear k3 k4 k6 k7 k10 k11
    exact ⟨by omega, by omega, by omega, by omega, by omega, by omega, by omega, by omega, by omega, by omega, by omega, by omega, by omega, by omega, by omega, by omega, by omega, by omega, by omega⟩
  have hGG : GG τ := ⟨hTt, hLt, ⟨fun t => by have := k3 t; omega, fun t => by have := k4 t; omega, fun t1 t2 => by have := k6 t1 t2; omega, fun t1 t2 => by have := k7 t1 t2; omega, fun t1 => by rw [q5, e2, a1]; exact k10 t1⟩, fun _ _ => by omega, ⟨fun _ => by omega, fun _ q => by omega⟩, hf.gA hA⟩
  exact hQ τ hGG hf ⟨hGG, fun _ => by omega, by omega, by omega, by omega⟩ hn0
theorem zdir {w : Int} (h0 : 0 ≤ w) (h1 : w < 6) : zform w = w := by
  have hc : w = 0 ∨ w = 1 ∨ w = 2 ∨ w = 3 ∨ w = 4 ∨ w = 5 := by omega
  rcases hc with rfl | rfl | rfl | rfl | rfl | rfl <;> decide
theorem t_directive {h : Int → Int} {L : Int} {E M : Int → Int} {σ : ZS} {Q : Int → ZS → Prop} (hP : PS σ) (hC : CT h L E M σ) (hz : 2 * zI σ 13 7 ≤ zA σ 12 2 (zI σ 14 4)) (t6 : zA σ 12 0 (zI σ 14 4) = 6) (w0 : 0 ≤ zA σ 12 1 (zI σ 14 4)) (w6 : zA σ 12 1 (zI σ 14 4) < 6) (ho : 3 ≤ zA σ 12 1 (zI σ 14 4) → zI σ 14 5 = 1) (hQ : ∀ (x : Int) (τ : ZS), CSi σ τ x → TSd h L E M σ τ x wpX11_directive → Q x τ) : wpX8_directive (zform (zA σ 12 1 (zI σ 14 4))) σ Q := by
  have on : PG σ (zsI σ 14 4 (zI σ 14 4 + 1)) := (PG.rf hP).on (by omega)
  have pb := hP.tk.2.2.1
  have i0 := hP.2.2.1.1
  have i1 : zI σ 14 4 < zI σ 12 3 := by have := hP.2.2.1; omega
  have p1 := (hC.pl i0 i1 (show zA σ 12 0 (zI σ 14 4) ≠ 0 by omega)).2 (Or.inr (Or.inr t6))
  have qa : zI (zsI σ 14 4 (zI σ 14 4 + 1)) 14 4 = zI σ 14 4 + 1 := zI_s
  have hC1 : CT h L E M (zsI σ 14 4 (zI σ 14 4 + 1)) := hC.k (ob_i (by decide)) (ob_i (by decide))
  have hz1 : zI (zsI σ 14 4 (zI σ 14 4 + 1)) 13 7 ≤ 242 := by
    show zI σ 13 7 ≤ 242
    omega
  have hz2 : 2 * zI (zsI σ 14 4 (zI σ 14 4 + 1)) 13 7 ≤ zA (zsI σ 14 4 (zI σ 14 4 + 1)) 12 2 (zI (zsI σ 14 4 (zI σ 14 4 + 1)) 14 4) + 2 := by
    rw [qa]
    show 2 * zI σ 13 7 ≤ zA σ 12 2 (zI σ 14 4 + 1) + 2
    omega
  have oo : 3 ≤ zA σ 12 1 (zI σ 14 4) → zI (zsI σ 14 4 (zI σ 14 4 + 1)) 14 5 = 1 := ho
  have gen : ∀ c : Int, 15 ≤ c → c = zA σ 12 1 (zI σ 14 4) + 12 → ∀ (x : Int) (τ : ZS), CSt (zsI σ 14 4 (zI σ 14 4 + 1)) τ x → TSt h L E M (zsI σ 14 4 (zI σ 14 4 + 1)) τ x (wpX11_data c) → (0 ≤ x ∧ x ≤ 1) ∧ Q x τ := by
    intro c hc ec x τ cs ts
    refine ⟨cs.1, hQ x τ (CSt.i hP hC t6 hz cs) (TSi.d (TSt.i (C := dC) hP hC t6 ts (fun ρ γ Qr _ _ e9 e6 k => ?_)))⟩
    unfold dC
    refine ⟨by omega, fun q => by omega, fun _ => ?_⟩
    rw [e9, ← ec]
    exact k _ (fun y ρ' hy q => ⟨hy, q⟩)
  rw [zdir w0 w6]
  unfold wpX8_directive
  exact ⟨by omega, fun e => t_seg hP hC hz t6 e (fun x τ c t => ⟨c.1, hQ x τ c t⟩), fun n0 => ⟨fun e => t_decl hP hC hz t6 (Or.inl ⟨e, rfl⟩) (fun x τ c t => ⟨c.1, hQ x τ c t⟩), fun n1 => ⟨fun e => t_decl hP hC hz t6 (Or.inr ⟨e, rfl⟩) (fun x τ c t => ⟨c.1, hQ x τ c t⟩), fun n2 => ⟨fun e => t_words on.1 hC1 (oo (by omega)) hz2 (gen 15 (by decide) (by omega)), fun n3 => ⟨fun e => t_bytes on.1 hC1 (oo (by omega)) hz2 (gen 16 (by decide) (by omega)), fun n4 => t_space on.1 hC1 (oo (by omega)) hz1 (gen 17 (by decide) (by omega))⟩⟩⟩⟩⟩
/-- may the word stand there -/
theorem x_mayStand {a : Int} {σ : ZS} {Q : Int → ZS → Prop} (h : PS σ) (ha : 0 ≤ a ∧ a ≤ 65536) (h1 : a < 36 → (zI σ 14 5 = 1 ∨ a ≤ 2) → Q 1 σ) (h0 : ¬ (a < 36 ∧ (zI σ 14 5 = 1 ∨ a ≤ 2)) → Q 0 σ) : wpX8_mayStand a σ Q := by
  have o := h.2.2.2.1
  have zf : a < 36 → (zform a ≤ 2 ↔ a ≤ 2) ∧ (-2147483648 ≤ zform a ∧ zform a ≤ 2147483647) := by
    intro lt
    by_cases q : a < 6
    · rw [zdir ha.1 q]; omega
    · have := ztab (w := a) (by omega) lt
      omega
  unfold wpX8_mayStand wpX8_mayStand_28 wpX8_mayStand_32 wpX8_mayStand_33
  refine ⟨by omega, fun _ => ⟨by decide, h0 (by omega)⟩, fun _ => ⟨fun _ => ⟨by decide, h0 (by omega)⟩, fun lt => ⟨by omega, fun _ => ⟨by decide, h1 (by omega) (Or.inl (by omega))⟩, fun _ => ?_⟩⟩⟩
  have z := zf (by omega)
  exact ⟨by omega, z.2, fun q => ⟨by decide, h0 (by omega)⟩, fun q => ⟨by decide, h1 (by omega) (Or.inr (by omega))⟩⟩
/-- the reference's parse answers alike -/
def PE (h : Int → Int) (L : Int) (E M : Int → Int) (σ τ : ZS) (x : Int) : Prop := ∀ (ρ : ZS) (Qr : Int → ZS → Prop), HdI h L E M σ ρ → (x < 0 → ∀ ρ' : ZS, RB τ ρ' (zI τ 11 5) [] → PR ρ ρ' → Qr 1 ρ') → (¬ x < 0 → ∀ ρ' : ZS, GG ρ' → PR ρ ρ' → Qr 0 ρ') → wpX11_parse_44 ρ Qr
theorem t_parse {h : Int → Int} {L : Int} {E M : Int → Int} {σ : ZS} {Q : Int → ZS → Prop} (hC : CT h L E M σ) (hQ : ∀ (x : Int) (τ : ZS), PS τ → kp [5, 6, 13, 14] σ τ → (-1 ≤ x ∧ x ≤ 480) → PE h L E M (zsI (zsI (zsI σ 14 4 0) 14 5 0) 13 7 0) τ x → Q x τ) : wpX8_parse σ Q := by
  obtain ⟨rS, rR, rF, rT⟩ := hC.1.1
  have he : 1 ≤ zI σ 12 3 ∧ zA σ 12 0 (zI σ 12 3 - 1) = 0 := ⟨hC.1.2.2.1, hC.1.2.2.2.1⟩
  have p0 : 0 ≤ zA σ 12 2 0 := (rT.2 0 (by decide) (by omega)).2.2.1.1
  unfold wpX8_parse wpX8_parse_20
  obtain ⟨σ0, hσ0⟩ : ∃ τ, τ = zsI (zsI (zsI σ 14 4 0) 14 5 0) 13 7 0 := ⟨_, rfl⟩
  have P0 : PS σ0 := by
    rw [hσ0]
    refine ⟨?_, he, ?_, ?_, ⟨?_, fun i i0 i1 => ?_, fun i i0 i1 => ?_⟩, ⟨fun i i0 i1 => ?_, fun q => absurd rfl q⟩, rS.1⟩
    · exact rT.k (((ob_i (by decide)).trans (ob_i (by decide))).trans (ob_i (by decide))) (((ob_i (by decide)).trans (ob_i (by decide))).trans (ob_i (by decide)))
    · show (0 : Int) ≤ 0 ∧ (0 : Int) ≤ zI σ 12 3 - 1
      omega
    · show (0 : Int) ≤ 0 ∧ (0 : Int) ≤ 1
      decide
    · show (0 : Int) ≤ 0 ∧ (0 : Int) ≤ 248
      decide
    · have i1' : i < 0 := i1
      omega
    · have i1' : i < 0 := i1
      omega
    · have i1' : i < 0 := i1
      omega
  have k0 : kp [5, 6, 13, 14] σ σ0 := by rw [hσ0]; exact ((kp.rf.ti (by decide)).ti (by decide)).ti (by decide)
  have a0 : zI σ0 14 4 = 0 := by rw [hσ0]; rfl
  have s0 : zI σ0 13 7 = 0 := by rw [hσ0]; rfl
  rw [← hσ0] at hQ ⊢
  clear hσ0
  refine lfp1_ind (fun v _ => (481 - v).toNat) (fun v τ => PS τ ∧ kp [5, 6, 13, 14] σ τ ∧ (0 ≤ v ∧ v ≤ 481) ∧ v ≤ zI τ 14 4 ∧ 2 * zI τ 13 7 ≤ zA σ 12 2 (zI τ 14 4) ∧ (∀ (ρ0 : ZS) (Qr : Int → ZS → Prop) (K : ZS → Prop), (∀ υ : ZS, wpbX11_parse_44 K υ Qr → K υ) → (∀ ρ' : ZS, HdI h L E M τ ρ' → PR ρ0 ρ' → K ρ') → ∀ ρ : ZS, HdI h L E M σ0 ρ → PR ρ0 ρ → K ρ)) (fun K v τ hI ih => ?_) ⟨P0, k0, by decide, by omega, by rw [a0, s0]; omega, fun ρ0 Qr K hK hG ρ hh hp => hG ρ hh hp⟩
  obtain ⟨tp, tk, v0, va, tz, tr⟩ := hI
  have hz := tp.1.1
  have hat := tp.2.2.1
  have e11 : ob τ 11 = ob σ 11 := tk 11 (by decide)
  have e12 : ob τ 12 = ob σ 12 := tk 12 (by decide)
  have hCt := hC.k e11 e12
  have w2 : zA τ 12 2 = zA σ 12 2 := ob_A e12 2
  have w3 : zI τ 12 3 = zI σ 12 3 := ob_I e12 3
  have i0 := hat.1
  have i1 : zI τ 14 4 < zI τ 12 3 := by omega
  have tt := tp.tk
  -- a statement that fails
  have bad : ∀ υ : ZS, PS υ → kp [5, 6, 13, 14] τ υ → zA τ 12 0 (zI τ 14 4) ≠ 0 → (∀ (ρ : ZS) (Qr : Int → ZS → Prop), HdI h L E M τ ρ → (∀ ρ' : ZS, GG ρ' → PR ρ ρ' → Qr 0 ρ') → wpX11_item ρ Qr) → wpX8_parse_146 υ Q := by
    intro υ up uk n0 it
    have ut := up.tk.2.2.1
    unfold wpX8_parse_146
    refine ⟨up.at, hQ _ υ up (tk.tr uk) (by omega) (fun ρ Qr hd _ q0 => ?_)⟩
    unfold wpX11_parse_44
    intro P hPP
    refine tr ρ Qr P hPP (fun ρ' hm mp => hPP _ ?_) ρ hd PR.rf
    have T0 := hm.1.2.2.2.2.f.1
    have l7 := hm.2.1.1.2.1.2.2.1
    unfold wpbX11_parse_44
    exact ⟨by omega, fun q => absurd (T0.mpr q) n0, fun _ => it ρ' _ hm (fun ρ2 g p => ⟨by decide, fun q => absurd rfl q, fun _ => q0 (by omega) ρ2 g (mp.tr p)⟩)⟩
  -- a statement that stands, up to its end
  have f133 : ∀ ω : ZS, zA τ 12 0 (zI τ 14 4) ≠ 0 → PS ω → kp [5, 6, 13, 14] τ ω → zI τ 14 4 ≤ zI ω 14 4 → 2 * zI ω 13 7 ≤ zA σ 12 2 (zI ω 14 4) + 1 → (∀ (ρ : ZS) (Qr : Int → ZS → Prop), HdI h L E M τ ρ → (∀ ρ2 : ZS, SY h L E ω (zI ω 14 4) ρ2 → RB ω ρ2 (M (zI ω 14 4)) [] → Fresh ρ2 → PR ρ ρ2 → zI ρ2 0 31 ≤ 2 * zI ρ2 0 6 → wpX11_item_116 ρ2 Qr) → wpX11_item ρ Qr) → wpX8_parse_133 K v 1 ω Q := by
    intro ω n0 wp wk wa wz it
    have c11 : ob ω 11 = ob σ 11 := (wk 11 (by decide)).trans e11
    have c12 : ob ω 12 = ob σ 12 := (wk 12 (by decide)).trans e12
    have hCw := hC.k c11 c12
    have x3 : zI ω 12 3 = zI σ 12 3 := ob_I c12 3
    have hatw := wp.2.2.1
    have s59 : cS 59 := by unfold cS; omega
    unfold wpX8_parse_133
    refine ⟨by decide, fun q => absurd q (by decide), fun _ => c_take wp (by decide) (fun e p => ⟨by decide, fun _ => ih _ _ ⟨p, (tk.tr wk).ti (by decide), by omega, ?_, ?_, fun ρ0 Qr P hPP hG ρ hh hp => tr ρ0 Qr P hPP (fun ρ' hm mp => hPP _ ?_) ρ hh hp⟩ (by omega), fun q => absurd q (by decide)⟩) (fun ne => ⟨by decide, fun q => absurd rfl q, fun _ => bad ω wp wk n0 (fun ρ Qr hd q0 => it ρ Qr hd (fun ρ2 s2 b2 f2 p2 q31 => ?_))⟩)⟩
    · rw [zI_s]; omega
    · rw [zI_s]
      show 2 * zI ω 13 7 ≤ zA σ 12 2 (zI ω 14 4 + 1)
      have := (hCw.pl (i := zI ω 14 4) (by omega) (by omega) (by omega)).1
      rw [ob_A c12 2] at this
      omega
    · have T0 := hm.1.2.2.2.2.f.1
      have l7 := hm.2.1.1.2.1.2.2.1
      unfold wpbX11_parse_44
      refine ⟨by omega, fun q => absurd (T0.mpr q) n0, fun _ => it ρ' _ hm (fun ρ2 s2 b2 f2 p2 q31 => ?_)⟩
      have gl := b2.1.2.1
      obtain ⟨l1, l2, l3, l4, l5, l6, l7', l8, l9, l10, l11, l12, l13, l14, l15, l16, l17, l18, l19⟩ := gl
      unfold wpX11_item_116
      refine r_take hCw (by omega) (by omega) s2 b2 s59 (fun _ ρ3 s3 b3 f3 g3 p3 c6 c5 => ⟨by decide, by decide, fun _ => hG ρ3 ⟨?_, ?_, b3.1, f3, ?_, ?_, ?_⟩ (mp.tr (p2.tr p3)), fun q => absurd q (by decide)⟩) (fun q => absurd e q)
      · rw [show zI (zsI ω 14 4 (zI ω 14 4 + 1)) 14 4 = zI ω 14 4 + 1 from zI_s]
        exact s3.k (ob_i (by decide)) (ob_i (by decide))
      · rw [show zI (zsI ω 14 4 (zI ω 14 4 + 1)) 14 4 = zI ω 14 4 + 1 from zI_s, hCw.m1 (by omega) (by omega) (by omega)]
        exact b3.k (ob_i (by decide)) (ob_i (by decide)) (zI_f (by decide))
      · rw [g3.1 31 (by decide)]; omega
      · rw [g3.1 34 (by decide)]; omega
      · rw [g3.2 19 (by decide), g3.1 23 (by decide)]; omega
    · unfold wpX11_item_116
      exact r_take hCw (by omega) (by omega) s2 b2 s59 (fun q => absurd q ne) (fun _ => ⟨by decide, q0 _ (GG_34 b2.1) (p2.tr PR_fault)⟩)
  -- behind the label
  have f58 : ∀ υ : ZS, zA τ 12 0 (zI τ 14 4) ≠ 0 → PS υ → kp [5, 6, 13, 14] τ υ → zI τ 14 4 ≤ zI υ 14 4 → 2 * zI υ 13 7 ≤ zA σ 12 2 (zI υ 14 4) → (∀ (ρ : ZS) (Qr : Int → ZS → Prop), HdI h L E M τ ρ → (∀ ρ' : ZS, HdI h L E M υ ρ' → PR ρ ρ' → wpX11_item_50 ρ' Qr) → wpX11_item ρ Qr) → wpX8_parse_58 K v 1 υ Q := by
    intro υ n0 up uk ua uz lb
    have c11 : ob υ 11 = ob σ 11 := (uk 11 (by decide)).trans e11
    have c12 : ob υ 12 = ob σ 12 := (uk 12 (by decide)).trans e12
    have hCu := hC.k c11 c12
    have x2 : zA υ 12 2 = zA σ 12 2 := ob_A c12 2
    have ut := up.tk
    have uz' : 2 * zI υ 13 7 ≤ zA υ 12 2 (zI υ 14 4) := by rw [x2]; exact uz
    -- what comes of a statement
    have fin : ∀ (W : ZS → (Int → ZS → Prop) → Prop) (x : Int) (ω : ZS), (∀ (ρ' : ZS) (Qr : Int → ZS → Prop), HdI h L E M υ ρ' → W ρ' (fun x6 σ7 => (-2147483648 ≤ x6 ∧ x6 ≤ 2147483647) ∧ (¬ x6 = 0 → wpX11_item_116 σ7 Qr) ∧ (x6 = 0 → wpX11_item_114 σ7 Qr)) → wpX11_item_50 ρ' Qr) → CSi υ ω x → TSd h L E M υ ω x W → (-2147483648 ≤ x ∧ x ≤ 2147483647) ∧ (x = 0 → wpX8_parse_131 K v ω Q) ∧ (¬ x = 0 → wpX8_parse_127 K v ω Q) := by
      intro W x ω hW cs ts
      obtain ⟨cx, cp, ck, cz⟩ := cs
      unfold wpX8_parse_131 wpX8_parse_127 wpX8_parse_132
      refine ⟨by omega, fun x0 => ?_, fun x1 => ?_⟩
      · unfold wpX8_parse_133
        refine ⟨by decide, fun _ => bad ω cp (uk.tr ck) n0 (fun ρ Qr hd q0 => lb ρ Qr hd (fun ρ' hm mp => hW ρ' Qr hm (ts ρ' _ hm.1 hm.2.1 hm.2.2 (fun q => by omega) (fun _ ρ2 g p => ⟨by decide, fun q => absurd rfl q, fun _ => q0 ρ2 g (mp.tr p)⟩)))), fun q => absurd rfl q⟩
      · have x1' : x = 1 := by omega
        have cz' := cz x1'
        rw [x2] at cz'
        refine f133 ω n0 cp (uk.tr ck) (by omega) cz'.1 (fun ρ Qr hd k => lb ρ Qr hd (fun ρ' hm mp => hW ρ' Qr hm (ts ρ' _ hm.1 hm.2.1 hm.2.2 (fun _ ρ2 s2 b2 f2 p2 q31 => ⟨by decide, fun _ => k ρ2 s2 b2 f2 (mp.tr p2) q31, fun q => absurd q (by decide)⟩) (fun q => by omega))))
    have T6 : ∀ ρ' : ZS, SY h L E υ (zI υ 14 4) ρ' → (zA υ 12 0 (zI υ 14 4) = 6 ↔ zI ρ' 0 7 = 1 ∧ 12 ≤ zI ρ' 0 9) := fun ρ' s => s.2.2.2.2.f.2.2.2.2.2.2.2.2.1
    have T6v : ∀ ρ' : ZS, SY h L E υ (zI υ 14 4) ρ' → zA υ 12 0 (zI υ 14 4) = 6 → zI ρ' 0 9 = zA υ 12 1 (zI υ 14 4) + 12 := fun ρ' s q => (s.2.2.2.2.f.2.2.2.2.2.2.2.2.2.1 q).1
    unfold wpX8_parse_58
    refine ⟨by decide, fun q => absurd q (by decide), fun _ => c_type up ⟨by have := ut.1; omega, fun n6 => f133 υ n0 up uk ua (by omega) (fun ρ Qr hd k => lb ρ Qr hd (fun ρ' hm mp => ?_)), fun e6 => c_value up (x_mayStand up ut.2.1 (fun lt o => ⟨by decide, fun q => absurd q (by decide), fun _ => ⟨by have := ut.2.1; omega, ?_, fun f6 => ?_, fun f5 => ?_⟩⟩) (fun no => ⟨by decide, fun _ => ?_, fun q => absurd rfl q⟩))⟩⟩
    · have q6 := (T6 ρ' hm.1)
      have l7 := hm.2.2.1.2.1.2.2.1
      have l9 := hm.2.2.1.2.1.2.2.2.1
      have kk := k ρ' hm.1 hm.2.1 hm.2.2.2.1 mp hm.2.2.2.2.1
      unfold wpX11_item_50
      exact ⟨by omega, fun _ => kk, fun t => ⟨by omega, fun _ => kk, fun q => absurd (q6.mpr ⟨t, by omega⟩) n6⟩⟩
    · have b := zform_bd (i := zA υ 12 1 (zI υ 14 4)) ⟨ut.2.1.1, lt⟩
      omega
    · have w5 : 6 ≤ zA υ 12 1 (zI υ 14 4) := by
        by_cases q : zA υ 12 1 (zI υ 14 4) < 6
        · rw [zdir ut.2.1.1 q] at f6; exact f6
        · omega
      have o1 : zI υ 14 5 = 1 := by omega
      refine t_instruction up hCu o1 uz' e6 w5 lt (fun x ω cs ts => fin wpX11_instruction x ω (fun ρ' Qr hm k => ?_) cs ts.d)
      have q6 := (T6 ρ' hm.1).mp e6
      have qv := T6v ρ' hm.1 e6
      have l9 := hm.2.2.1.2.1.2.2.2.1
      have e33 : zI ρ' 0 33 = 1 := by rw [hm.2.1.2.2.1]; exact o1
      unfold wpX11_item_50 wpX11_item_88
      exact ⟨by omega, fun q => absurd q6.1 q, fun _ => ⟨by omega, fun q => by omega, fun _ => ⟨by omega, fun _ => ⟨by omega, fun _ => k, fun q => by omega⟩, fun q => by omega⟩⟩⟩
    · have w5 : zA υ 12 1 (zI υ 14 4) < 6 := by
        by_cases q : zA υ 12 1 (zI υ 14 4) < 6
        · exact q
        · have := ztab (w := zA υ 12 1 (zI υ 14 4)) (by omega) lt
          omega
      refine t_directive up hCu uz' e6 ut.2.1.1 w5 (fun q => by omega) (fun x ω cs ts => fin wpX11_directive x ω (fun ρ' Qr hm k => ?_) cs ts)
      have q6 := (T6 ρ' hm.1).mp e6
      have qv := T6v ρ' hm.1 e6
      have l9 := hm.2.2.1.2.1.2.2.2.1
      have e33 : zI ρ' 0 33 = zI υ 14 5 := hm.2.1.2.2.1
      have o5 := up.2.2.2.1
      have k88 : wpX11_item_88 ρ' Qr := by
        unfold wpX11_item_88
        exact ⟨by omega, fun q => by omega, fun _ => k⟩
      unfold wpX11_item_50
      exact ⟨by omega, fun q => absurd q6.1 q, fun _ => ⟨by omega, fun q => by omega, fun _ => ⟨by omega, fun _ => k88, fun z => ⟨fun _ => k88, fun q => by omega⟩⟩⟩⟩
    · unfold wpX8_parse_131 wpX8_parse_132 wpX8_parse_133
      refine ⟨by decide, fun _ => bad υ up uk n0 (fun ρ Qr hd q0 => lb ρ Qr hd (fun ρ' hm mp => ?_)), fun q => absurd rfl q⟩
      have q6 := (T6 ρ' hm.1).mp e6
      have qv := T6v ρ' hm.1 e6
      have l9 := hm.2.2.1.2.1.2.2.2.1
      have e33 : zI ρ' 0 33 = zI υ 14 5 := hm.2.1.2.2.1
      have o5 := up.2.2.2.1
      unfold wpX11_item_50
      exact ⟨by omega, fun q => absurd q6.1 q, fun _ => ⟨by omega, fun q => by omega, fun _ => ⟨by omega, fun q => absurd (⟨by omega, Or.inl (by omega)⟩) no, fun z => ⟨fun q => absurd ⟨by omega, Or.inr (by omega)⟩ no, fun _ => s_fault ⟨by decide, q0 _ (GG_34 hm.2.2.1) (mp.tr PR_fault)⟩⟩⟩⟩⟩
  unfold wpbX8_parse_20 wpX8_parse_165 wpX8_parse_53
  refine ⟨by omega, by omega, fun q => by omega, fun _ => c_type tp ⟨by have := tt.1; omega, fun t0 => hQ _ τ tp tk (by decide) (fun ρ Qr hd q1 _ => ?_), fun n0 => c_type tp ⟨by have := tt.1; omega, fun n3 => f58 τ n0 tp kp.rf (Int.le_refl _) tz (fun ρ Qr hd k => ?_), fun e3 => t_label tp hCt (by rw [w2]; exact tz) e3 (fun ω wp wk wa wz lb => ⟨by decide, fun q => absurd q (by decide), fun _ => f58 ω n0 wp wk (by omega) (by rw [w2] at wz; exact wz) lb⟩) (fun ω wp wk it => ⟨by decide, fun _ => ?_, fun q => absurd rfl q⟩)⟩⟩⟩
  · unfold wpX11_parse_44
    intro P hPP
    refine tr ρ Qr P hPP (fun ρ' hm mp => hPP _ ?_) ρ hd PR.rf
    have T0 := hm.1.2.2.2.2.f.1.mp t0
    unfold wpbX11_parse_44
    refine ⟨by omega, fun _ => q1 (by decide) ρ' ?_ mp, fun q => absurd T0 q⟩
    have em : M (zI τ 14 4 + 1) = M (zI τ 14 4) := hCt.m1 i0 i1 (by omega)
    have al : zI τ 14 4 = zI τ 12 3 - 1 := by
      by_cases q : zI τ 14 4 < zI τ 12 3 - 1
      · exact absurd t0 (hCt.1.2.2.2.2.1 _ i0 q)
      · omega
    have : M (zI τ 14 4) = zI τ 11 5 := by
      rw [← em, al, show zI τ 12 3 - 1 + 1 = zI τ 12 3 by omega]
      exact hCt.1.2.2.2.2.2.1
    rw [← this]
    exact hm.2.1
  · have T3 := hd.1.2.2.2.2.f.2.2.2.1
    unfold wpX11_item
    exact r_isName hd.2.2.1.2.1 hd.1 (fun q => absurd q n3) (fun _ => ⟨by decide, fun _ => k ρ hd PR.rf, fun q => absurd rfl q⟩)
  · unfold wpX8_parse_58 wpX8_parse_133
    exact ⟨by decide, fun _ => ⟨by decide, fun _ => bad ω wp wk n0 it, fun q => absurd rfl q⟩, fun q => absurd rfl q⟩
