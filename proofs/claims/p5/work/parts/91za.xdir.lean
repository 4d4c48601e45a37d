/-! X: names that are declared, on both sides -/
theorem x_wrong {p : Int} {σ : ZS} {R Q : ZS → Prop} (hp : 0 ≤ p) (g : wpX11_wrongAt p σ R) (hQ : ∀ τ : ZS, R τ → 0 ≤ zI τ 0 18 → fr [18] [] σ τ → Q τ) : wpX11_wrongAt p σ Q := by
  unfold wpX11_wrongAt wpX11_wrongAt_15 wpX11_wrongAt_20 at g ⊢
  exact ⟨g.1, fun q => hQ _ (g.2.1 q) (show 0 ≤ p from hp) (fr.rf.ti (by decide)), fun q => ⟨(g.2.2 q).1, fun q' => hQ _ ((g.2.2 q).2.1 q') (by omega) fr.rf, fun q' => hQ _ ((g.2.2 q).2.2 q') (show 0 ≤ p from hp) (fr.rf.ti (by decide))⟩⟩
/-- the reference opens a segment -/
def xO (σ τ : ZS) (n a : Int) : Prop := ((1 < zA σ 0 13 n ∨ (zA σ 0 13 n = 1 ∧ zA σ 0 15 n ≠ a)) ∧ 0 ≤ zI τ 0 18 ∧ fr [18, 33] [] σ τ) ∨ (zA σ 0 13 n = 0 ∧ fr [32, 33, 34] [13, 14, 15, 35] σ τ ∧ zA τ 0 13 = zu (zA σ 0 13) n 1 ∧ zA τ 0 15 = zu (zA σ 0 15) n a ∧ zA τ 0 14 = zu (zA σ 0 14) n (zI σ 0 34) ∧ zA τ 0 35 = zu (zA σ 0 35) (zI σ 0 34) n ∧ zI τ 0 34 = zI σ 0 34 + 1 ∧ zI τ 0 32 = zI σ 0 34) ∨ (zA σ 0 13 n = 1 ∧ zA σ 0 15 n = a ∧ fr [32, 33] [] σ τ ∧ zI τ 0 32 = zA σ 0 14 n)
theorem x_open {σ : ZS} {n a p : Int} {Q : ZS → Prop} (hG : GG σ) (hn : 0 ≤ n ∧ n < 240 ∧ n < zI σ 0 17) (ha : 1 ≤ a ∧ a ≤ 16) (hp : 0 ≤ p ∧ p ≤ 480) (hsg : zI σ 0 34 < 80 ∧ 6 * (zI σ 0 34 + 1) ≤ zI σ 0 5) (hQ : ∀ τ : ZS, GG τ → PR σ τ → zI τ 0 33 = 1 → fr [18, 32, 33, 34] [13, 14, 15, 35] σ τ → xO σ τ n a → Q τ) : wpX11_open n a p (zsI σ 0 33 1) Q := by
  have so := (hG.2.2.2.2.2.1 n hn.1 hn.2.1).1
  have g := s_open (Q := fun τ => GG τ ∧ PR σ τ) hG hn ha hp hsg (fun τ a b _ _ => ⟨a, b⟩)
  have f30 : (1 < zA σ 0 13 n ∨ (zA σ 0 13 n = 1 ∧ zA σ 0 15 n ≠ a)) → wpX11_open_30 p (zsI σ 0 33 1) (fun τ => GG τ ∧ PR σ τ) → wpX11_open_30 p (zsI σ 0 33 1) Q := by
    intro hs k
    unfold wpX11_open_30 at k ⊢
    refine x_wrong hp.1 k (fun τ r r18 f => ?_)
    have f' : fr [18, 33] [] σ τ := (fr.i (by decide)).tr (f.up (by decide) (by decide))
    exact hQ τ r.1 r.2 (f.1 33 (by decide)) (f'.up (by decide) (by decide)) (Or.inl ⟨hs, r18, f'⟩)
  have f36 : (zA σ 0 13 n = 0 ∨ (zA σ 0 13 n = 1 ∧ zA σ 0 15 n = a)) → wpX11_open_36 n a (zsI σ 0 33 1) (fun τ => GG τ ∧ PR σ τ) → wpX11_open_36 n a (zsI σ 0 33 1) Q := by
    intro hs k
    unfold wpX11_open_36 wpX11_open_89 at k ⊢
    refine ⟨k.1, k.2.1, fun q => ⟨(k.2.2.1 q).1, ?_⟩, fun q => ⟨(k.2.2.2 q).1, (k.2.2.2 q).2.1, ?_⟩⟩
    · have q' : ¬ zA σ 0 13 n = 0 := q
      have r := (k.2.2.1 q).2
      have f' : fr [32, 33] [] σ (zsI (zsI σ 0 33 1) 0 32 (zA (zsI σ 0 33 1) 0 14 n)) := (fr.rf.ti (by decide)).ti (by decide)
      exact hQ _ r.1 r.2 rfl (f'.up (by decide) (by decide)) (Or.inr (Or.inr ⟨by omega, by omega, f', rfl⟩))
    · have r := (k.2.2.2 q).2.2
      have f' : fr [32, 33, 34] [13, 14, 15, 35] σ (zsI (zsI (zsA (zsA (zsA (zsA (zsI σ 0 33 1) 0 13 n 1) 0 15 n a) 0 14 n (zI (zsI σ 0 33 1) 0 34)) 0 35 (zI (zsI σ 0 33 1) 0 34) n) 0 34 (zI (zsI σ 0 33 1) 0 34 + 1)) 0 32 (zA (zsI (zsA (zsA (zsA (zsA (zsI σ 0 33 1) 0 13 n 1) 0 15 n a) 0 14 n (zI (zsI σ 0 33 1) 0 34)) 0 35 (zI (zsI σ 0 33 1) 0 34) n) 0 34 (zI (zsI σ 0 33 1) 0 34 + 1)) 0 14 n)) := ((((((fr.rf.ti (by decide)).ta (by decide)).ta (by decide)).ta (by decide)).ta (by decide)).ti (by decide)).ti (by decide)
      exact hQ _ r.1 r.2 rfl (f'.up (by decide) (by decide)) (Or.inr (Or.inl ⟨q, f', rfl, rfl, rfl, rfl, rfl, pu_eq (h := zA σ 0 14)⟩))
  unfold wpX11_open at g ⊢
  refine ⟨g.1, g.2.1, fun q => f30 (Or.inl q) (g.2.2.1 q), fun q => ⟨fun q' => f36 ?_ ((g.2.2.2 q).1 q'), fun q' => ⟨((g.2.2.2 q).2 q').1, ((g.2.2.2 q).2 q').2.1, fun e => f36 (Or.inr ⟨q', e⟩) (((g.2.2.2 q).2 q').2.2.1 e), fun e => f30 (Or.inr ⟨q', e⟩) (((g.2.2.2 q).2 q').2.2.2 e)⟩⟩⟩
  have n1' : ¬ 1 < zA σ 0 13 n := q
  have n2' : ¬ zA σ 0 13 n = 1 := q'
  omega
def ySn (d : YD) (n a : Int) : YD := ((zu d.so n 1, zu d.sg n d.ns, zu d.al n a), (zu d.sn d.ns n, d.ns + 1, d.ns), d.2.2)
def ySo (d : YD) (n : Int) : YD := (d.1, (d.sn, d.ns, d.sg n), d.2.2)
theorem ySeg_eq (d : YD) (n a : Int) : ySeg d n a = if 1 < d.so n ∨ (d.so n = 1 ∧ d.al n ≠ a) then yB d else if d.so n = 0 then ySn d n a else ySo d n := rfl
def yEn (d : YD) (n : Int) : YD := ((zu d.so n 3, d.sg, d.al), d.2)
theorem yExt_eq (d : YD) (n : Int) : yExt d n = if d.so n = 0 then yEn d n else yB d := rfl
def yLn (d : YD) (n : Int) : YD := ((zu d.so n 2, zu d.sg n d.cur, d.al), d.2)
theorem yLab_eq (d : YD) (n : Int) : yLab d n = if d.so n = 0 then yP (yLn d n) 7 n 0 else yB d := rfl
theorem YN.bad {ρ τ : ZS} {m : Int} {d : YD} {fs : List Nat} (h : YN ρ m d) (f : fr fs [] ρ τ) (h34 : 34 ∉ fs) (h32 : 32 ∉ fs) (h18 : 0 ≤ zI τ 0 18) : YN τ m (yB d) := by
  obtain ⟨a, b, c, e, g, i⟩ := h
  have A : ∀ x : Nat, zA τ 0 x = zA ρ 0 x := fun x => f.2 x (by simp)
  refine ⟨by rw [A 13, A 14, A 15]; exact a, b, (f.1 34 h34).trans c, by rw [A 35]; exact e, (f.1 32 h32).trans g, ?_⟩
  show zI τ 0 18 < 0 ↔ ¬ True
  exact ⟨fun q => by omega, fun q => absurd trivial q⟩
theorem YN.opn {ρ τ : ZS} {m n a : Int} {d : YD} (h : YN ρ m d) (hn : 0 ≤ n ∧ n < m) (ns0 : 0 ≤ zI ρ 0 34) (x : xO ρ τ n a) : YN τ m (ySeg d n a) := by
  have h0 := h
  obtain ⟨hN, hZ, h34, h35, h32, h18⟩ := h
  have nn := hN n hn.1 hn.2
  rw [ySeg_eq]
  rcases x with ⟨x1, x2, x3⟩ | ⟨x1, f, x13, x15, x14, x35, x34, x32⟩ | ⟨x1, x2, f, x32⟩
  · rw [if_pos (by
      rcases x1 with x1 | ⟨x1, y1⟩
      · exact Or.inl (by rw [← nn.1]; exact x1)
      · have e : d.so n = 1 := by rw [← nn.1]; exact x1
        exact Or.inr ⟨e, fun q => y1 (by rw [nn.2.2 e]; exact q)⟩)]
    exact h0.bad x3 (by decide) (by decide) x2
  · have e0 : d.so n = 0 := by rw [← nn.1]; exact x1
    rw [if_neg (by rw [e0]; omega), if_pos e0]
    refine ⟨fun k k0 k1 => ?_, fun k k0 => ?_, ?_, fun s s0 s1 => ?_, ?_, ?_⟩
    · show zA τ 0 13 k = zu d.so n 1 k ∧ (zu d.so n 1 k = 1 ∨ zu d.so n 1 k = 2 → zA τ 0 14 k = zu d.sg n d.ns k) ∧ (zu d.so n 1 k = 1 → zA τ 0 15 k = zu d.al n a k)
      rw [x13, x14, x15]
      by_cases e : k = n
      · rw [e, pu_eq, pu_eq, pu_eq, pu_eq, pu_eq, pu_eq]
        exact ⟨rfl, fun _ => h34, fun _ => rfl⟩
      · rw [pu_ne e, pu_ne e, pu_ne e, pu_ne e, pu_ne e, pu_ne e]; exact hN k k0 k1
    · show zu d.so n 1 k = 0
      rw [pu_ne (by omega)]; exact hZ k k0
    · rw [x34, h34]; rfl
    · have s1' : s < d.ns + 1 := s1
      show zA τ 0 35 s = zu d.sn d.ns n s
      rw [x35, h34]
      by_cases e : s = d.ns
      · rw [e, pu_eq, pu_eq]
      · rw [pu_ne e, pu_ne e]; exact h35 s s0 (by omega)
    · rw [x32, h34]; rfl
    · rw [f.1 18 (by decide)]; exact h18
  · have e1 : d.so n = 1 := by rw [← nn.1]; exact x1
    have A : ∀ x : Nat, zA τ 0 x = zA ρ 0 x := fun x => f.2 x (by simp)
    rw [if_neg (by
      rintro (q | ⟨-, q⟩)
      · omega
      · exact q (by rw [← nn.2.2 e1]; exact x2)), if_neg (by omega)]
    refine ⟨by rw [A 13, A 14, A 15]; exact hN, hZ, (f.1 34 (by decide)).trans h34, by rw [A 35]; exact h35, ?_, by rw [f.1 18 (by decide)]; exact h18⟩
    show zI τ 0 32 = d.sg n
    rw [x32, nn.2.1 (Or.inl e1)]
theorem ySeg_p (d : YD) (n a : Int) : (ySeg d n a).2.2.2 = d.2.2.2 := by
  rw [ySeg_eq]
  split
  · rfl
  · split <;> rfl
theorem yExt_p (d : YD) (n : Int) : (yExt d n).2.2.2 = d.2.2.2 := by
  rw [yExt_eq]
  split <;> rfl
/-- the same uses and pieces -/
theorem YP.w {ρ : ZS} {d e : YD} (h : YP ρ d) (k : e.2.2.2 = d.2.2.2) : YP ρ e := by
  unfold YP YD.np YD.pk YD.pa YD.pb YD.ps at h ⊢
  rw [k]; exact h
theorem pU_nil {d e : YD} (k : e.2.2.2 = d.2.2.2) : pU e [] = pU d [] := by
  show e.u = d.u
  unfold YD.u
  rw [k]
theorem r_open {σ ρ : ZS} {d : YD} {m n a p : Int} {Q : ZS → Prop} (hB : RBd σ d ρ m []) (hn : 0 ≤ n ∧ n < 240 ∧ n < zI ρ 0 17) (ha : 1 ≤ a ∧ a ≤ 16) (hp : 0 ≤ p ∧ p ≤ 480) (hsg : zI ρ 0 34 < 80 ∧ 6 * (zI ρ 0 34 + 1) ≤ zI ρ 0 5) (hQ : ∀ τ : ZS, GG τ → (∀ σ' : ZS, ob σ' 11 = ob σ 11 → zI σ' 14 5 = 1 → RBd σ' (ySeg d n a) τ m []) → fr [18, 32, 33, 34] [13, 14, 15, 35] ρ τ → PR ρ τ → Q τ) : wpX11_open n a p (zsI ρ 0 33 1) Q := by
  obtain ⟨b0, b1, b3, b4⟩ := hB
  refine x_open b0 hn ha hp hsg (fun τ g pr e33 f x => hQ τ g (fun σ' e11 e5 => ⟨g, ?_, by rw [e33, e5], fun q => ?_⟩) f pr)
  · rw [f.1 17 (by decide), f.2 12 (by decide), ob_A e11 0]; exact b1
  · rw [ob_I e11 5] at q
    obtain ⟨c1, c2, c3⟩ := b4 q
    refine ⟨c1.opn ⟨hn.1, by rw [← b1.1]; exact hn.2.2⟩ (b0.2.1.2.2.2.2.2.2.2.2.2.1).1 x, (c2.k (f.1 31 (by decide)) (f.2 24 (by decide)) (f.2 25 (by decide)) (f.2 26 (by decide)) (f.2 28 (by decide))).w (ySeg_p d n a), ?_⟩
    rw [pU_nil (ySeg_p d n a)]
    exact c3.k (f.1 23 (by decide)) (f.2 19 (by decide)) (f.2 20 (by decide)) (f.2 22 (by decide))
/-- a name from elsewhere -/
theorem YN.ext {ρ : ZS} {m n : Int} {d : YD} (h : YN ρ m d) (hn : 0 ≤ n ∧ n < m) (z : zA ρ 0 13 n = 0) : YN (zsA ρ 0 13 n 3) m (yExt d n) := by
  obtain ⟨hN, hZ, h34, h35, h32, h18⟩ := h
  have nn := hN n hn.1 hn.2
  have e0 : d.so n = 0 := by rw [← nn.1]; exact z
  rw [yExt_eq, if_pos e0]
  refine ⟨fun k k0 k1 => ?_, fun k k0 => ?_, h34, h35, h32, h18⟩
  · show zu (zA ρ 0 13) n 3 k = zu d.so n 3 k ∧ (zu d.so n 3 k = 1 ∨ zu d.so n 3 k = 2 → zA ρ 0 14 k = d.sg k) ∧ (zu d.so n 3 k = 1 → zA ρ 0 15 k = d.al k)
    by_cases e : k = n
    · rw [e, pu_eq, pu_eq]; exact ⟨rfl, fun q => by omega, fun q => by omega⟩
    · rw [pu_ne e, pu_ne e]; exact hN k k0 k1
  · show zu d.so n 3 k = 0
    rw [pu_ne (by omega)]; exact hZ k k0
theorem r_ext {σ ρ : ZS} {d : YD} {m n p : Int} {Q : ZS → Prop} (hB : RBd σ d ρ m []) (hn : 0 ≤ n ∧ n < 240 ∧ n < zI ρ 0 17) (hp : 0 ≤ p ∧ p ≤ 480) (hQ : ∀ τ : ZS, RBd σ (yExt d n) τ m [] → fr [18] [13] ρ τ → PR ρ τ → Q τ) : (zA ρ 0 13 n = 0 → Q (zsA ρ 0 13 n 3)) ∧ (¬ zA ρ 0 13 n = 0 → wpX11_wrongAt p ρ Q) := by
  obtain ⟨b0, b1, b3, b4⟩ := hB
  refine ⟨fun z => ?_, fun z => ?_⟩
  · have f : fr [18] [13] ρ (zsA ρ 0 13 n 3) := fr.a (by decide)
    refine hQ _ ⟨GG_ext b0 hn z, b1, b3, fun q => ?_⟩ f ⟨fr.a (by decide), Int.le_refl _, Int.le_refl _, Int.le_refl _, fun _ _ _ => ⟨rfl, rfl⟩, fun h => h, Int.le_refl _, Int.le_refl _⟩
    obtain ⟨c1, c2, c3⟩ := b4 q
    refine ⟨c1.ext ⟨hn.1, by rw [← b1.1]; exact hn.2.2⟩ z, (c2.k (f.1 31 (by decide)) (f.2 24 (by decide)) (f.2 25 (by decide)) (f.2 26 (by decide)) (f.2 28 (by decide))).w (yExt_p d n), ?_⟩
    rw [pU_nil (yExt_p d n)]
    exact c3.k (f.1 23 (by decide)) (f.2 19 (by decide)) (f.2 20 (by decide)) (f.2 22 (by decide))
  · refine x_wrong (R := fun τ => GG τ ∧ PR ρ τ) hp.1 (s_wrongAt b0.2.1 hp (fun w w0 w1 => ⟨GG_18 b0 ⟨w0, w1⟩, PR_18 w0⟩)) (fun τ r r18 f => ?_)
    have A : ∀ x : Nat, zA τ 0 x = zA ρ 0 x := fun x => f.2 x (by simp)
    refine hQ τ ⟨r.1, by rw [f.1 17 (by decide), A 12]; exact b1, (f.1 33 (by decide)).trans b3, fun q => ?_⟩ (f.up (by decide) (by decide)) r.2
    obtain ⟨c1, c2, c3⟩ := b4 q
    have nn := c1.1 n hn.1 (by rw [← b1.1]; exact hn.2.2)
    refine ⟨?_, (c2.k (f.1 31 (by decide)) (A 24) (A 25) (A 26) (A 28)).w (yExt_p d n), ?_⟩
    · rw [yExt_eq, if_neg (by rw [← nn.1]; exact z)]
      exact c1.bad f (by decide) (by decide) r18
    · rw [pU_nil (yExt_p d n)]
      exact c3.k (f.1 23 (by decide)) (A 19) (A 20) (A 22)
