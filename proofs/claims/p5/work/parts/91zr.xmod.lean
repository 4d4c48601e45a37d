/-! X: what is written into a module, item by item -/
/-- code; fixups: kinds, segments, places, names, how many -/
def MD : Type := (Int → Int) × (Int → Int) × (Int → Int) × (Int → Int) × (Int → Int) × Int
def MD.co (d : MD) : Int → Int := d.1
def MD.fk (d : MD) : Int → Int := d.2.1
def MD.fs (d : MD) : Int → Int := d.2.2.1
def MD.fp (d : MD) : Int → Int := d.2.2.2.1
def MD.fn (d : MD) : Int → Int := d.2.2.2.2.1
def MD.nf (d : MD) : Int := d.2.2.2.2.2
def mB (d : MD) (i v : Int) : MD := (zu d.co i (v % 256), d.2)
def mW (d : MD) (i v : Int) : MD := mB (mB d i v) (i + 1) (v / 256)
def mF (d : MD) (k s p n : Int) : MD := (d.co, zu d.fk d.nf k, zu d.fs d.nf s, zu d.fp d.nf p, zu d.fn d.nf n, d.nf + 1)
def mD0 : MD := (fun _ => 0, fun _ => 0, fun _ => 0, fun _ => 0, fun _ => 0, 0)
/-- where a segment begins -/
def stS (a b g X : Int → Int) (N : Nat) (s : Int) : Int := psum (fun s => oS a b g X s N) s.toNat
/-- where a label lies -/
def loS (a b c g X : Int → Int) (N : Nat) (n : Int) : Int := oS a b g X (g (lI a c n N)) (lI a c n N).toNat
def ofS (a b g X : Int → Int) (i : Int) : Int := oS a b g X (g i) i.toNat
/-- a near address -/
def mNe (a b c g X r : Int → Int) (N : Nat) (d : MD) (i : Int) : MD := if r (c i) = 3 then mF d 2 (g i) (ofS a b g X i + 1) (c i) else mW d (stS a b g X N (g i) + (ofS a b g X i + 1)) (dS a b c g X N i)
/-- an offset, at place o -/
def mOf (a b c g X r : Int → Int) (N : Nat) (d : MD) (i o v : Int) : MD := mF (mW d (stS a b g X N (g i) + o) (v + (if r (c i) = 2 then loS a b c g X N (c i) else 0))) 0 (g i) o (c i)
/-- an item -/
def mI (a b c g X r : Int → Int) (N : Nat) (d : MD) (i : Int) : MD := if g i < 0 then d else if a i = 4 then mB d (stS a b g X N (g i) + ofS a b g X i) (b i) else if a i = 6 then mW d (stS a b g X N (g i) + ofS a b g X i) (b i) else if a i = 7 then mOf a b c g X r N d i (ofS a b g X i) (b i) else if a i = 8 then mF d 1 (g i) (ofS a b g X i) (c i) else if a i = 9 then (if X i = 0 then mB (mB d (stS a b g X N (g i) + ofS a b g X i) 235) (stS a b g X N (g i) + (ofS a b g X i + 1)) (dS a b c g X N i) else mNe a b c g X r N (mB d (stS a b g X N (g i) + ofS a b g X i) 233) i) else if a i = 10 then mB (mB d (stS a b g X N (g i) + ofS a b g X i) (b i)) (stS a b g X N (g i) + (ofS a b g X i + 1)) (dS a b c g X N i) else if a i = 11 then mNe a b c g X r N (mB d (stS a b g X N (g i) + ofS a b g X i) 232) i else if a i = 12 then mF (mOf a b c g X r N (mB d (stS a b g X N (g i) + ofS a b g X i) 154) i (ofS a b g X i + 1) (b i)) 1 (g i) (ofS a b g X i + 3) (c i) else d
def mK (a b c g X r : Int → Int) (N : Nat) : Nat → MD
  | 0 => mD0
  | k + 1 => mI a b c g X r N (mK a b c g X r N k) k
/-- the class's module holds d -/
def MC (nw tg : Int → Int) (σ : ZS) (m : Int) (d : MD) : Prop := (∀ j : Int, 0 ≤ j → j < 400 → zA σ m 6 j = d.co j) ∧ zI σ m 7 = d.nf ∧ (∀ k : Int, 0 ≤ k → k < d.nf → zA σ m 8 k = d.fk k ∧ zA σ m 9 k = d.fs k ∧ zA σ m 10 k = d.fp k ∧ zA σ m 11 k = tg (d.fn k) ∧ zA σ m 12 k = nw (d.fn k))
/-- what else a module has stays -/
def Kg (m : Int) (σ τ : ZS) : Prop := (zI τ m 0 = zI σ m 0 ∧ zI τ m 1 = zI σ m 1 ∧ zI τ m 13 = zI σ m 13) ∧ (zA τ m 2 = zA σ m 2 ∧ zA τ m 3 = zA σ m 3 ∧ zA τ m 4 = zA σ m 4 ∧ zA τ m 5 = zA σ m 5 ∧ zA τ m 14 = zA σ m 14 ∧ zA τ m 15 = zA σ m 15 ∧ zA τ m 16 = zA σ m 16)
theorem Kg.rf {m : Int} {σ : ZS} : Kg m σ σ := ⟨⟨rfl, rfl, rfl⟩, rfl, rfl, rfl, rfl, rfl, rfl, rfl⟩
theorem Kg.tr {m : Int} {σ τ υ : ZS} (h : Kg m σ τ) (k : Kg m τ υ) : Kg m σ υ := by
  obtain ⟨⟨a1, a2, a3⟩, b1, b2, b3, b4, b5, b6, b7⟩ := h
  obtain ⟨⟨c1, c2, c3⟩, d1, d2, d3, d4, d5, d6, d7⟩ := k
  exact ⟨⟨c1.trans a1, c2.trans a2, c3.trans a3⟩, d1.trans b1, d2.trans b2, d3.trans b3, d4.trans b4, d5.trans b5, d6.trans b6, d7.trans b7⟩
theorem x_putByte {m s o b A : Int} {nw tg : Int → Int} {d : MD} {σ : ZS} {Q : ZS → Prop} (hg : 0 ≤ m ∧ m ≤ 2) (h : MO σ m) (hs : 0 ≤ s ∧ s < zI σ m 1) (hA : zA σ m 5 s + o = A) (hl : 0 ≤ o ∧ A < 400) (hc : MC nw tg σ m d) (hQ : ∀ τ : ZS, MO τ m → kp [m] σ τ → Kg m σ τ → MC nw tg τ m (mB d A b) → Q τ) : wpX6_putByte m s o b σ Q := by
  have h1 := h.2.1
  have h5 := h.2.2.2.2.1 s hs.1 hs.2
  have g := c_putByte (b := b) (Q := fun τ => MO τ m ∧ kp [m] σ τ) hg h (show 0 ≤ s ∧ s < 24 by omega) (show 0 ≤ o ∧ o ≤ 21000 by omega) (fun τ a b _ => ⟨a, b⟩)
  unfold wpX6_putByte wpX6_putByte_40 at g ⊢
  obtain ⟨g1, g2, g3, g4, g5⟩ := g
  refine ⟨g1, g2, g3, fun q => absurd q (by omega), fun q => ⟨(g5 q).1, (g5 q).2.1, fun q' => absurd q' (by omega), fun q' => ⟨((g5 q).2.2.2 q').1, ?_⟩⟩⟩
  have r := ((g5 q).2.2.2 q').2
  rw [hA] at r ⊢
  refine hQ _ r.1 r.2 ⟨⟨rfl, rfl, rfl⟩, zA_f (by decide), zA_f (by decide), zA_f (by decide), zA_f (by decide), zA_f (by decide), zA_f (by decide), zA_f (by decide)⟩ ⟨fun j j0 j1 => ?_, hc.2.1, fun k k0 k1 => ?_⟩
  · rw [zA_s]
    show zu (zA σ m 6) A (b % 256) j = zu d.co A (b % 256) j
    by_cases e : j = A
    · rw [e, pu_eq, pu_eq]
    · rw [pu_ne e, pu_ne e]; exact hc.1 j j0 j1
  · rw [zA_f (by decide), zA_f (by decide), zA_f (by decide), zA_f (by decide), zA_f (by decide)]
    exact hc.2.2 k k0 k1
theorem x_putWord {m s o b A : Int} {nw tg : Int → Int} {d : MD} {σ : ZS} {Q : ZS → Prop} (hg : 0 ≤ m ∧ m ≤ 2) (h : MO σ m) (hs : 0 ≤ s ∧ s < zI σ m 1) (hA : zA σ m 5 s + o = A) (hl : 0 ≤ o ∧ A + 1 < 400) (hb : -2147483648 ≤ b ∧ b ≤ 2147483647) (hc : MC nw tg σ m d) (hQ : ∀ τ : ZS, MO τ m → kp [m] σ τ → Kg m σ τ → MC nw tg τ m (mW d A b) → Q τ) : wpX6_putWord m s o b σ Q := by
  unfold wpX6_putWord
  refine ⟨hg, x_putByte hg h hs hA (by omega) hc (fun τ tm tk tg' tc => ⟨hb, ?_⟩)⟩
  have e1 := tg'.1.2.1
  have e5 := tg'.2.2.2.2.1
  exact x_putByte (A := A + 1) hg tm (by rw [e1]; exact hs) (by rw [e5]; omega) (by omega) tc (fun υ um uk ug uc => hQ υ um (tk.tr uk) (tg'.tr ug) uc)
theorem x_addFixup {m t s p n : Int} {nw tg : Int → Int} {d : MD} {σ : ZS} {Q : ZS → Prop} (hg : 0 ≤ m ∧ m ≤ 2) (h : MO σ m) (ht : 0 ≤ t ∧ t ≤ 2) (hs : 0 ≤ s ∧ s < 24) (hp : 0 ≤ p ∧ p ≤ 20010) (ha : -1 ≤ tg n ∧ tg n < 24) (hw : 0 ≤ nw n ∧ nw n ≤ 4398046511103) (hlt : d.nf < 200) (hc : MC nw tg σ m d) (hQ : ∀ τ : ZS, MO τ m → kp [m] σ τ → Kg m σ τ → MC nw tg τ m (mF d t s p n) → Q τ) : wpX6_addFixup m t s p (tg n) (nw n) σ Q := by
  have g := c_addFixup (Q := fun τ => MO τ m ∧ kp [m] σ τ) hg h ht hs hp ha hw (fun τ a b _ => ⟨a, b⟩)
  have n7 := hc.2.1
  unfold wpX6_addFixup wpX6_addFixup_72 at g ⊢
  obtain ⟨g1, g2, g3, g4⟩ := g
  refine ⟨g1, g2, fun q => absurd q (by omega), fun q => ⟨(g4 q).1, ?_⟩⟩
  have r := (g4 q).2
  have key : ∀ τ : ZS, MO τ m → kp [m] σ τ → Kg m σ τ → zI τ m 7 = zI σ m 7 + 1 → zA τ m 6 = zA σ m 6 → zA τ m 8 = zu (zA σ m 8) (zI σ m 7) t → zA τ m 9 = zu (zA σ m 9) (zI σ m 7) s → zA τ m 10 = zu (zA σ m 10) (zI σ m 7) p → zA τ m 11 = zu (zA σ m 11) (zI σ m 7) (tg n) → zA τ m 12 = zu (zA σ m 12) (zI σ m 7) (nw n) → Q τ := by
    intro τ a b c e7 e6 e8 e9 e10 e11 e12
    refine hQ τ a b c ⟨by rw [e6]; exact hc.1, by rw [e7, n7]; rfl, fun k k0 k1 => ?_⟩
    have k1' : k < d.nf + 1 := k1
    rw [e8, e9, e10, e11, e12, n7]
    show _ = zu d.fk d.nf t k ∧ _ = zu d.fs d.nf s k ∧ _ = zu d.fp d.nf p k ∧ _ = tg (zu d.fn d.nf n k) ∧ _ = nw (zu d.fn d.nf n k)
    by_cases e : k = d.nf
    · rw [e, pu_eq, pu_eq, pu_eq, pu_eq, pu_eq, pu_eq, pu_eq, pu_eq, pu_eq]; exact ⟨rfl, rfl, rfl, rfl, rfl⟩
    · rw [pu_ne e, pu_ne e, pu_ne e, pu_ne e, pu_ne e, pu_ne e, pu_ne e, pu_ne e, pu_ne e]; exact hc.2.2 k k0 (by omega)
  clear hQ hc g4 g3
  obtain rfl | rfl | rfl : m = 0 ∨ m = 1 ∨ m = 2 := by omega
  · exact key _ r.1 r.2 ⟨⟨rfl, rfl, rfl⟩, rfl, rfl, rfl, rfl, rfl, rfl, rfl⟩ rfl rfl rfl rfl rfl rfl rfl
  · exact key _ r.1 r.2 ⟨⟨rfl, rfl, rfl⟩, rfl, rfl, rfl, rfl, rfl, rfl, rfl⟩ rfl rfl rfl rfl rfl rfl rfl
  · exact key _ r.1 r.2 ⟨⟨rfl, rfl, rfl⟩, rfl, rfl, rfl, rfl, rfl, rfl, rfl⟩ rfl rfl rfl rfl rfl rfl rfl
