/-! X: what becomes bytes, on both sides -/
theorem RB.piece {σ τ ρ ρ' : ZS} {m k a b : Int} {pend : List Int} (hB : RB σ ρ m pend) (hk : kp [13] σ τ) (hy : yS τ = yP (yS σ) k a b) (he : Em 1 ρ ρ') (hx : xP ρ ρ' k a b) : RB τ ρ' m pend := by
  obtain ⟨b0, b1, b3, b4⟩ := hB
  obtain ⟨e1, e2, e3, e4, e5⟩ := he
  refine ⟨e1, ?_, ?_, fun q => ?_⟩
  · rw [e3.1 17 (by decide), e3.2 12 (by decide), hk.A (by decide) 0]; exact b1
  · rw [e3.1 33 (by decide), hk.I (by decide) 5]; exact b3
  · rw [hk.I (by decide) 5] at q
    obtain ⟨c1, c2, c3⟩ := b4 q
    rw [hy]
    refine ⟨?_, ?_, ?_⟩
    · exact (c1.k (e3.2 13 (by decide)) (e3.2 14 (by decide)) (e3.2 15 (by decide)) (e3.2 35 (by decide)) (e3.1 34 (by decide)) (e3.1 32 (by decide)) (e3.1 18 (by decide)) : YN ρ' m (yS σ))
    · exact c2.add (b0.2.1.2.2.2.2.2.2.2.2.1).1 hx c1.2.2.2.2.1
    · exact (c3.k (e3.1 23 (by decide)) (e3.2 19 (by decide)) (e3.2 20 (by decide)) (e3.2 22 (by decide)) : YU ρ' (pU (yS σ) pend))
/-- the class's byte -/
theorem x_addByte {σ : ZS} {b : Int} {Q : ZS → Prop} (h : PS σ) (ho : zI σ 14 5 = 1) (hs : zI σ 13 7 < 248) (hQ : ∀ τ : ZS, PS τ → kp [13] σ τ → zI τ 13 7 = zI σ 13 7 + 1 → yS τ = yP (yS σ) 0 (b % 256) 0 → Q τ) : wpX0_addByte b σ Q := by
  have hN := h.2.2.2.2.2.2
  unfold wpX0_addByte
  exact x_add h ⟨by decide, by omega, by omega, by decide, by decide, fun q => absurd rfl q, fun q => absurd q (by decide), fun q => absurd q (by decide), fun q => absurd q (by decide), fun q => absurd q (by decide)⟩ (Or.inr (Or.inr (Or.inr ho))) hs (fun τ a b _ d e => hQ τ a b d e)
/-- the value that a class's operand g is, as an item -/
def yV (d : YD) (n v p : Int) : YD := if 0 ≤ n then (if p = 0 then yP (yU d 1 n) 2 n v else yP (yU d 1 n) 3 n 0) else yP d 1 v 0
theorem x_addValue {g : Int} {σ : ZS} {Q : ZS → Prop} (hg : 5 ≤ g ∧ g ≤ 6) (h : PS σ) (ho : zI σ 14 5 = 1) (hi : OPI σ g) (hs : zI σ 13 7 < 248) (hQ : ∀ τ : ZS, PS τ → kp [13] σ τ → zI τ 13 7 = zI σ 13 7 + 1 → yS τ = yV (yS σ) (zI σ g 3) (zI σ g 2) (zI σ g 5) → Q τ) : wpX0_addValue g σ Q := by
  have hN := h.2.2.2.2.2.2
  obtain ⟨⟨a1, a2, a3, a4, a5, a6, a7⟩, b⟩ := hi
  unfold wpX0_addValue wpX0_addValue_38 wpX0_addValue_54
  have f : ∀ t : Int, (t = 7 ∧ zI σ g 5 = 0) ∨ (t = 8 ∧ ¬ zI σ g 5 = 0) → 0 ≤ zI σ g 3 → (5 ≤ g ∧ g ≤ 6) ∧ wpX0_add t (zI σ g 2) (zI σ g 3) (zI σ g 4) (-1) σ (fun σ3 => Q σ3) := by
    intro t ht n0
    refine ⟨hg, x_add h ⟨by omega, by omega, by omega, by omega, by decide, fun _ _ _ => n0, fun _ => a3 n0, fun q => by omega, fun q => by omega, fun q => by omega⟩ (Or.inr (Or.inr (Or.inr ho))) hs (fun τ p1 p2 _ p4 p5 => hQ τ p1 p2 p4 ?_)⟩
    rw [p5]
    unfold yV
    rw [if_pos n0]
    rcases ht with ⟨t7, z⟩ | ⟨t8, z⟩
    · rw [if_pos z, t7]; rfl
    · rw [if_neg z, t8]; rfl
  refine ⟨hg, by omega, fun n0 => ⟨by omega, fun z => f 7 (Or.inl ⟨rfl, z⟩) n0, fun z => f 8 (Or.inr ⟨rfl, z⟩) n0⟩, fun n0 => ?_⟩
  refine x_add h ⟨by decide, by omega, by omega, by decide, by decide, fun _ _ q => absurd rfl q, fun q => absurd q (by decide), fun q => absurd q (by decide), fun q => absurd q (by decide), fun q => absurd q (by decide)⟩ (Or.inr (Or.inr (Or.inr ho))) hs (fun τ p1 p2 _ p4 p5 => hQ τ p1 p2 p4 ?_)
  rw [p5]
  unfold yV
  rw [if_neg n0]
  rfl
/-- the b of memory -/
def mdv (b i : Int) : Int := if b = 0 then (if i = 0 then 6 else i - 2) else (if i = 0 then (if b = 3 then 7 else 6) else ((if b = 3 then 0 else 2) + i) - 6)
/-- a number with a sign -/
def sgn (n : Int) : Int := (n + 32768) % 65536 - 32768
/-- how many bytes of displacement follow -/
def dsz (b i n v : Int) : Int := if (b = 0 ∧ i = 0) ∨ 0 ≤ n then 2 else if sgn v = 0 ∧ mdv b i ≠ 6 then 0 else if -128 ≤ sgn v ∧ sgn v ≤ 127 then 1 else 2
theorem x_isBare {g : Int} {σ : ZS} {Q : Int → ZS → Prop} (hg : 5 ≤ g ∧ g ≤ 6) (hi : OPB σ g) (h1 : zI σ g 6 = 0 ∧ zI σ g 7 = 0 → Q 1 σ) (h0 : ¬ (zI σ g 6 = 0 ∧ zI σ g 7 = 0) → Q 0 σ) : wpX7_isBare g σ Q := by
  obtain ⟨a1, a2, a3, a4, a5, a6, a7⟩ := hi
  unfold wpX7_isBare wpX7_isBare_18 wpX7_isBare_19
  exact ⟨hg, by omega, fun q => ⟨by decide, h0 (fun z => q z.1)⟩, fun q => ⟨by omega, fun w => ⟨by decide, h0 (fun z => w z.2)⟩, fun w => ⟨by decide, h1 ⟨q, w⟩⟩⟩⟩
theorem x_mode {g : Int} {σ : ZS} {Q : Int → ZS → Prop} (hg : 5 ≤ g ∧ g ≤ 6) (hi : OPB σ g) (hQ : Q (mdv (zI σ g 6) (zI σ g 7)) σ) : wpX7_mode g σ Q := by
  obtain ⟨a1, a2, a3, a4, a5, a6, a7⟩ := hi
  unfold wpX7_mode wpX7_mode_62 wpX7_mode_48 wpX7_mode_25
  unfold mdv at hQ
  refine ⟨hg, by omega, fun q => ⟨by omega, fun w => ⟨fun z => ⟨hg, ?_⟩, fun z => ⟨hg, ?_⟩⟩, fun w => ⟨fun z => ?_, fun z => ?_⟩⟩, fun q => ⟨by omega, fun w => ?_, fun w => ?_⟩⟩
  · rw [if_neg q, if_neg w, if_neg z] at hQ; exact hQ
  · rw [if_neg q, if_neg w, if_pos z] at hQ; exact hQ
  · rw [if_neg q, if_pos w, if_neg z] at hQ; exact hQ
  · rw [if_neg q, if_pos w, if_pos z] at hQ; exact hQ
  · rw [if_pos q, if_neg w] at hQ; exact hQ
  · rw [if_pos q, if_pos w] at hQ; exact hQ
theorem mdv_bd {b i : Int} (hb : b = 0 ∨ b = 3 ∨ b = 5) (hi : i = 0 ∨ i = 6 ∨ i = 7) : 0 ≤ mdv b i ∧ mdv b i ≤ 7 := by
  unfold mdv
  rcases hb with rfl | rfl | rfl <;> rcases hi with rfl | rfl | rfl <;> decide
theorem r_bits {ρ : ZS} {b i : Int} {Q : Int → ZS → Prop} (hG : GG ρ) (hb : b = 0 ∨ b = 3 ∨ b = 5) (hi : i = 0 ∨ i = 6 ∨ i = 7) (rb : RGr b (zI ρ 0 41)) (ri : RGr i (zI ρ 0 42)) (hQ : Q (mdv b i) ρ) : wpX11_bits ρ Q := by
  unfold RGr at rb ri
  have l41 := hG.2.1.2.2.2.2.2.2.2.2.2.2.2.2.2.2.2.2.1
  have l42 := hG.2.1.2.2.2.2.2.2.2.2.2.2.2.2.2.2.2.2.2.1
  unfold wpX11_bits wpX11_bits_102 wpX11_bits_73 wpX11_bits_36
  rcases hb with rfl | rfl | rfl <;> rcases hi with rfl | rfl | rfl <;> exact ⟨by omega, fun q => ⟨fun w => ⟨by omega, fun z => ⟨fun y => by first | exact hQ | omega, fun y => by first | exact hQ | omega⟩, fun z => by first | exact hQ | omega⟩, fun w => ⟨by omega, fun z => ⟨fun y => by first | exact hQ | omega, fun y => by first | exact hQ | omega⟩, fun z => by first | exact hQ | omega⟩⟩, fun w => ⟨by omega, fun z => ⟨fun y => by first | exact hQ | omega, fun y => by first | exact hQ | omega⟩, fun z => by first | exact hQ | omega⟩⟩
theorem x_displacementSize {g : Int} {σ : ZS} {Q : Int → ZS → Prop} (hg : 5 ≤ g ∧ g ≤ 6) (hN : zI σ 11 5 ≤ 240) (hi : OPB σ g) (hQ : Q (dsz (zI σ g 6) (zI σ g 7) (zI σ g 3) (zI σ g 2)) σ) : wpX7_displacementSize g σ Q := by
  have hi0 := hi
  obtain ⟨a1, a2, a3, a4, a5, a6, a7⟩ := hi
  have hm := mdv_bd a6 a7
  have f36 : ¬ (zI σ g 6 = 0 ∧ zI σ g 7 = 0) → ¬ 0 ≤ zI σ g 3 → ¬ (sgn (zI σ g 2) = 0 ∧ mdv (zI σ g 6) (zI σ g 7) ≠ 6) → wpX7_displacementSize_36 (sgn (zI σ g 2)) σ Q := by
    intro n1 n2 n3
    unfold wpX7_displacementSize_36 wpX7_displacementSize_48
    unfold dsz at hQ
    rw [if_neg (fun q => q.elim n1 n2), if_neg n3] at hQ
    refine c_isShort (by unfold sgn; omega) (fun p q => ⟨by decide, fun q => absurd q (by decide), fun _ => ?_⟩) (fun p => ⟨by decide, fun _ => ?_, fun q => absurd rfl q⟩)
    · rw [if_pos ⟨p, q⟩] at hQ; exact hQ
    · rw [if_neg p] at hQ; exact hQ
  unfold wpX7_displacementSize wpX7_displacementSize_14 wpX7_signedNumber
  refine ⟨hg, x_isBare hg hi0 (fun b => ⟨by decide, fun _ => ?_, fun q => absurd q (by decide)⟩) (fun nb => ⟨by decide, fun q => absurd rfl q, fun _ => ⟨by omega, fun n => ⟨hg, ?_⟩, fun n => ?_⟩⟩)⟩
  · unfold dsz at hQ; rw [if_pos (Or.inl b)] at hQ; exact hQ
  · show (-2147483648 ≤ sgn (zI σ g 2) ∧ sgn (zI σ g 2) ≤ 2147483647) ∧ (¬ sgn (zI σ g 2) = 0 → wpX7_displacementSize_36 (sgn (zI σ g 2)) σ Q) ∧ (sgn (zI σ g 2) = 0 → _)
    refine ⟨by unfold sgn; omega, fun z => f36 nb (by omega) (fun q => z q.1), fun z => x_mode hg hi0 ⟨by omega, fun m6 => f36 nb (by omega) (fun q => q.2 m6), fun m6 => ?_⟩⟩
    unfold dsz at hQ
    rw [if_neg (fun q => q.elim nb (by omega)), if_pos ⟨z, m6⟩] at hQ
    exact hQ
  · unfold dsz at hQ; rw [if_pos (Or.inr (by omega))] at hQ; exact hQ
/-! X: forms on both sides -/
/-- RB, with the walk d named -/
def RBd (σ : ZS) (d : YD) (ρ : ZS) (m : Int) (pend : List Int) : Prop := GG ρ ∧ (zI ρ 0 17 = m ∧ ∀ n : Int, 0 ≤ n → n < m → RW (zA ρ 0 12 n) (zA σ 11 0 n)) ∧ zI ρ 0 33 = zI σ 14 5 ∧ (zI σ 11 5 ≤ 24 → YN ρ m d ∧ YP ρ d ∧ YU ρ (pU d pend))
theorem RB.d {σ ρ : ZS} {m : Int} {pend : List Int} (h : RB σ ρ m pend) : RBd σ (yS σ) ρ m pend := h
theorem RBd.b {σ τ ρ : ZS} {d : YD} {m : Int} {pend : List Int} (h : RBd σ d ρ m pend) (e11 : ob τ 11 = ob σ 11) (e5 : zI τ 14 5 = zI σ 14 5) (hy : yS τ = d) : RB τ ρ m pend := by
  unfold RB; rw [ob_I e11 5, ob_A e11 0, hy, e5]; exact h
/-- what only moves the reference's pieces -/
theorem RBd.piece {σ ρ ρ' : ZS} {d : YD} {m k a b : Int} {pend : List Int} (hB : RBd σ d ρ m pend) (he : Em 1 ρ ρ') (hx : xP ρ ρ' k a b) : RBd σ (yP d k a b) ρ' m pend := by
  obtain ⟨b0, b1, b3, b4⟩ := hB
  obtain ⟨e1, e2, e3, e4, e5⟩ := he
  refine ⟨e1, ?_, ?_, fun q => ?_⟩
  · rw [e3.1 17 (by decide), e3.2 12 (by decide)]; exact b1
  · rw [e3.1 33 (by decide)]; exact b3
  · obtain ⟨c1, c2, c3⟩ := b4 q
    exact ⟨(c1.k (e3.2 13 (by decide)) (e3.2 14 (by decide)) (e3.2 15 (by decide)) (e3.2 35 (by decide)) (e3.1 34 (by decide)) (e3.1 32 (by decide)) (e3.1 18 (by decide)) : YN ρ' m d), c2.add (b0.2.1.2.2.2.2.2.2.2.2.1).1 hx c1.2.2.2.2.1, (c3.k (e3.1 23 (by decide)) (e3.2 19 (by decide)) (e3.2 20 (by decide)) (e3.2 22 (by decide)) : YU ρ' (pU d pend))⟩
theorem RBd.use {σ ρ : ZS} {d : YD} {m n : Int} {pend : List Int} (hB : RBd σ d ρ m (n :: pend)) : RBd σ (yU d 1 n) ρ m pend := hB
theorem r_octD {σ ρ : ZS} {d : YD} {m b : Int} {pend : List Int} {Q : ZS → Prop} (hB : RBd σ d ρ m pend) (hs : zI ρ 0 33 = 1) (hp : zI ρ 0 31 + 1 ≤ 2 * zI ρ 0 6 + 8) (hb : -20000000 ≤ b ∧ b ≤ 20000000) (hQ : ∀ ρ' : ZS, RBd σ (yP d 0 b 0) ρ' m pend → Em 1 ρ ρ' → Q ρ') : wpX11_octet b ρ Q :=
  x_octet hB.1 hs hp hb (fun ρ' e x => hQ ρ' (hB.piece e x) e)
theorem OR.k {σ τ ρ ρ' : ZS} {g : Int} (h : OR σ g ρ) (e : ob τ g = ob σ g) (e37 : zI ρ' 0 37 = zI ρ 0 37) (e38 : zI ρ' 0 38 = zI ρ 0 38) (e39 : zI ρ' 0 39 = zI ρ 0 39) (e41 : zI ρ' 0 41 = zI ρ 0 41) (e42 : zI ρ' 0 42 = zI ρ 0 42) : OR τ g ρ' := by
  unfold OR MmR; rw [ob_I e 0, ob_I e 1, ob_I e 2, ob_I e 3, ob_I e 5, ob_I e 6, ob_I e 7, e37, e38, e39, e41, e42]; exact h
/-- a form behind its first byte -/
def yMt (d : YD) (σ : ZS) (g k : Int) : YD := if zI σ g 0 = 1 then yP d 0 (((192 + (8 * k)) + zI σ g 1) % 256) 0 else if dsz (zI σ g 6) (zI σ g 7) (zI σ g 3) (zI σ g 2) = 1 then yP (yP d 0 ((((64 * (if zI σ g 6 = 0 ∧ zI σ g 7 = 0 then 0 else dsz (zI σ g 6) (zI σ g 7) (zI σ g 3) (zI σ g 2))) + (8 * k)) + mdv (zI σ g 6) (zI σ g 7)) % 256) 0) 0 (zI σ g 2 % 256) 0 else if dsz (zI σ g 6) (zI σ g 7) (zI σ g 3) (zI σ g 2) = 2 then yV (yP d 0 ((((64 * (if zI σ g 6 = 0 ∧ zI σ g 7 = 0 then 0 else dsz (zI σ g 6) (zI σ g 7) (zI σ g 3) (zI σ g 2))) + (8 * k)) + mdv (zI σ g 6) (zI σ g 7)) % 256) 0) (zI σ g 3) (zI σ g 2) (zI σ g 5) else yP d 0 ((((64 * (if zI σ g 6 = 0 ∧ zI σ g 7 = 0 then 0 else dsz (zI σ g 6) (zI σ g 7) (zI σ g 3) (zI σ g 2))) + (8 * k)) + mdv (zI σ g 6) (zI σ g 7)) % 256) 0
theorem yMt.k {d : YD} {σ τ : ZS} {g k : Int} (e : ob τ g = ob σ g) : yMt d τ g k = yMt d σ g k := by
  unfold yMt; rw [ob_I e 0, ob_I e 1, ob_I e 2, ob_I e 3, ob_I e 5, ob_I e 6, ob_I e 7]
theorem x_addWithM {g a k : Int} {σ : ZS} {Q : ZS → Prop} (hg : 5 ≤ g ∧ g ≤ 6) (h : PS σ) (ho : zI σ 14 5 = 1) (hi : OPI σ g) (hs : zI σ 13 7 + 3 ≤ 248) (hQ : ∀ τ : ZS, PS τ → kp [13] σ τ → zI σ 13 7 ≤ zI τ 13 7 → zI τ 13 7 ≤ zI σ 13 7 + (if zI σ g 0 = 1 then 2 else 3) → yS τ = yMt (yP (yS σ) 0 (a % 256) 0) σ g k → Q τ) : wpX0_addWithM a g k σ Q := by
  have n13 := n_13 hg
  unfold wpX0_addWithM
  refine x_addByte h ho (by omega) (fun τ1 p1 k1 s1 y1 => ?_)
  have e1 := k1 g n13
  have o1 : zI τ1 14 5 = 1 := (k1.I (by decide) 5).trans ho
  have i1 : OPI τ1 g := hi.k (k1 11 (by decide)) e1
  have kd := i1.1.1
  refine ⟨hg, by omega, fun nk => ?_, fun yk => x_addByte p1 o1 (by omega) (fun τ2 p2 k2 s2 y2 => hQ τ2 p2 (k1.tr k2) (by omega) ?_ ?_)⟩
  rotate_left
  · rw [ob_I e1 0] at yk; rw [if_pos yk]; omega
  · rw [ob_I e1 0] at yk
    rw [y2, y1, ob_I e1 1]; unfold yMt; rw [if_pos yk]
  rw [ob_I e1 0] at nk
  refine x_displacementSize hg p1.2.2.2.2.2.2.2 i1.1 ?_
  rw [ob_I e1 6, ob_I e1 7, ob_I e1 3, ob_I e1 2]
  have f53 : ∀ s : Int, s = (if zI σ g 6 = 0 ∧ zI σ g 7 = 0 then 0 else dsz (zI σ g 6) (zI σ g 7) (zI σ g 3) (zI σ g 2)) → wpX0_addWithM_53 g k (dsz (zI σ g 6) (zI σ g 7) (zI σ g 3) (zI σ g 2)) s 64 τ1 Q := by
    intro s hs'
    unfold wpX0_addWithM_53 wpX0_addWithM_95
    refine ⟨hg, x_mode hg i1.1 (x_addByte p1 o1 (by omega) (fun τ2 p2 k2 s2 y2 => ?_))⟩
    rw [ob_I e1 6, ob_I e1 7, y1, hs'] at y2
    have e2 := k2 g n13
    have o2 : zI τ2 14 5 = 1 := (k2.I (by decide) 5).trans o1
    have i2 : OPI τ2 g := i1.k (k2 11 (by decide)) e2
    have zb : dsz (zI σ g 6) (zI σ g 7) (zI σ g 3) (zI σ g 2) = 0 ∨ dsz (zI σ g 6) (zI σ g 7) (zI σ g 3) (zI σ g 2) = 1 ∨ dsz (zI σ g 6) (zI σ g 7) (zI σ g 3) (zI σ g 2) = 2 := by
      unfold dsz; split
      · exact Or.inr (Or.inr rfl)
      · split
        · exact Or.inl rfl
        · split
          · exact Or.inr (Or.inl rfl)
          · exact Or.inr (Or.inr rfl)
    refine ⟨by omega, fun n1 => ⟨fun n2 => hQ τ2 p2 (k1.tr k2) (by omega) (by rw [if_neg nk]; omega) ?_, fun y2' => x_addValue hg p2 o2 i2 (by omega) (fun τ3 p3 k3 s3 y3 => hQ τ3 p3 ((k1.tr k2).tr k3) (by omega) (by rw [if_neg nk]; omega) ?_)⟩, fun y1' => x_addByte p2 o2 (by omega) (fun τ3 p3 k3 s3 y3 => hQ τ3 p3 ((k1.tr k2).tr k3) (by omega) (by rw [if_neg nk]; omega) ?_)⟩
    · rw [y2]; unfold yMt; rw [if_neg nk, if_neg n1, if_neg n2]
    · rw [y3, y2, ob_I e2 2, ob_I e2 3, ob_I e2 5, ob_I e1 2, ob_I e1 3, ob_I e1 5]; unfold yMt; rw [if_neg nk, if_neg n1, if_pos y2']
    · rw [y3, y2, ob_I e2 2, ob_I e1 2]; unfold yMt; rw [if_neg nk, if_pos y1']
  refine x_isBare hg i1.1 (fun b => ⟨by decide, fun q => absurd q (by decide), fun _ => f53 _ ?_⟩) (fun b => ⟨by decide, fun _ => f53 _ ?_, fun q => absurd rfl q⟩)
  · rw [ob_I e1 6, ob_I e1 7] at b; rw [if_pos b]
  · rw [ob_I e1 6, ob_I e1 7] at b; rw [if_neg b]
/-- the reference's form -/
theorem r_emitForm {g k : Int} {σ ρ : ZS} {d : YD} {m : Int} {pend : List Int} {Q : ZS → Prop} (hB : RBd σ d ρ m (nm (zI σ g 3) ++ pend)) (hO : OR σ g ρ) (hi : OPB σ g) (hk : 0 ≤ k ∧ k < 8) (h12 : zI σ g 0 = 1 ∨ zI σ g 0 = 2) (hU : OpU ρ) (hs : zI ρ 0 33 = 1) (hp : zI ρ 0 31 + 2 ≤ 2 * zI ρ 0 6 + 8) (hQ : ∀ ρ' : ZS, RBd σ (yMt d σ g k) ρ' m pend → Em 2 ρ ρ' → Q ρ') : wpX11_emitForm k ρ Q := by
  have gg := hB.1
  have l37 := gg.2.1.2.2.2.2.2.2.2.2.2.2.2.2.2.1
  have l38 := gg.2.1.2.2.2.2.2.2.2.2.2.2.2.2.2.2.1
  have l39 := gg.2.1.2.2.2.2.2.2.2.2.2.2.2.2.2.2.2.1
  have l41 := gg.2.1.2.2.2.2.2.2.2.2.2.2.2.2.2.2.2.2.1
  have l42 := gg.2.1.2.2.2.2.2.2.2.2.2.2.2.2.2.2.2.2.2.1
  obtain ⟨a1, a2, a3, a4, a5, a6, a7⟩ := hi
  unfold wpX11_emitForm
  rcases h12 with k1 | k2
  · have ho : zI ρ 0 37 = 0 ∧ zI ρ 0 38 = zI σ g 1 ∧ 0 ≤ zI σ g 1 ∧ zI σ g 1 < 8 ∧ zI σ g 3 = -1 := by
      rcases hO with ⟨-, q⟩ | ⟨q, -⟩ | ⟨q, -⟩ | ⟨q, -⟩
      · exact q
      · omega
      · omega
      · omega
    rw [ho.2.2.2.2, show nm (-1) = [] from rfl, List.nil_append] at hB
    refine ⟨by omega, fun q => absurd ho.1 q, fun _ => r_octD hB hs (by omega) (by omega) (fun ρ' b e => hQ ρ' ?_ (e.up (by decide)))⟩
    unfold yMt
    rw [if_pos k1, show (192 + 8 * k + zI σ g 1) % 256 = 192 + 8 * k + zI ρ 0 38 by omega]
    exact b
  · have ho : MmR σ g ρ ∧ 0 ≤ zI σ g 2 ∧ zI σ g 2 < 65536 ∧ zI σ g 5 = 0 := by
      rcases hO with ⟨q, -⟩ | ⟨q, -⟩ | ⟨-, q⟩ | ⟨q, -⟩
      · omega
      · omega
      · exact q
      · omega
    obtain ⟨⟨o1, o2, o3, o4, o5⟩, v0, v1, v5⟩ := ho
    have e38 : zI ρ 0 38 = zI σ g 2 := by omega
    have hm := mdv_bd a6 a7
    have fold : yMt d σ g k = if dsz (zI σ g 6) (zI σ g 7) (zI σ g 3) (zI σ g 2) = 1 then yP (yP d 0 ((((64 * (if zI σ g 6 = 0 ∧ zI σ g 7 = 0 then 0 else dsz (zI σ g 6) (zI σ g 7) (zI σ g 3) (zI σ g 2))) + (8 * k)) + mdv (zI σ g 6) (zI σ g 7)) % 256) 0) 0 (zI σ g 2 % 256) 0 else if dsz (zI σ g 6) (zI σ g 7) (zI σ g 3) (zI σ g 2) = 2 then yV (yP d 0 ((((64 * (if zI σ g 6 = 0 ∧ zI σ g 7 = 0 then 0 else dsz (zI σ g 6) (zI σ g 7) (zI σ g 3) (zI σ g 2))) + (8 * k)) + mdv (zI σ g 6) (zI σ g 7)) % 256) 0) (zI σ g 3) (zI σ g 2) (zI σ g 5) else yP d 0 ((((64 * (if zI σ g 6 = 0 ∧ zI σ g 7 = 0 then 0 else dsz (zI σ g 6) (zI σ g 7) (zI σ g 3) (zI σ g 2))) + (8 * k)) + mdv (zI σ g 6) (zI σ g 7)) % 256) 0 := by
      unfold yMt; rw [if_neg (by omega)]
    -- the value behind the form's byte
    have val : ∀ (c : Int) (ρ1 : ZS), c = (((64 * (if zI σ g 6 = 0 ∧ zI σ g 7 = 0 then 0 else 2)) + (8 * k)) + mdv (zI σ g 6) (zI σ g 7)) → dsz (zI σ g 6) (zI σ g 7) (zI σ g 3) (zI σ g 2) = 2 → RBd σ (yP d 0 c 0) ρ1 m (nm (zI σ g 3) ++ pend) → Em 1 ρ ρ1 → (zI ρ1 0 39 < 0 → wpX11_piece 1 (zI ρ1 0 38) 0 0 ρ1 (fun σ17 => Q σ17)) ∧ (¬ zI ρ1 0 39 < 0 → wpX11_piece 2 (zI ρ1 0 39) (zI ρ1 0 38) 0 ρ1 (fun σ19 => Q σ19)) := by
      intro c ρ1 hc hz b e
      have g38 : zI ρ1 0 38 = zI ρ 0 38 := e.2.2.1.1 38 (by decide)
      have g39 : zI ρ1 0 39 = zI ρ 0 39 := e.2.2.1.1 39 (by decide)
      have g6 := e.s6
      have g31 := e.2.2.2.2
      have s1 := e.s33 hs
      have cc : (((64 * (if zI σ g 6 = 0 ∧ zI σ g 7 = 0 then 0 else dsz (zI σ g 6) (zI σ g 7) (zI σ g 3) (zI σ g 2))) + (8 * k)) + mdv (zI σ g 6) (zI σ g 7)) % 256 = c := by
        rw [hz, hc]; split <;> omega
      rw [fold, if_neg (by omega), if_pos hz, cc] at hQ
      refine ⟨fun n => x_piece b.1 s1 (by omega) (by decide) (fun q => absurd q (by decide)) (fun q => absurd q (by decide)) (by omega) (by decide) (by decide) (fun q => by omega) (fun ρ' e' x => hQ ρ' ?_ (e.tr e')), fun n => x_piece b.1 s1 (by omega) (by decide) (fun _ _ => by omega) (fun q => absurd q (by decide)) (by omega) (by omega) (by decide) (fun _ => ?_) (fun ρ' e' x => hQ ρ' ?_ (e.tr e'))⟩
      · unfold yV
        rw [if_neg (by omega)]
        rw [show nm (zI σ g 3) = [] from if_neg (by omega), List.nil_append] at b
        rw [g38, e38] at x
        exact b.piece e' x
      · have := (e.ops hU).1 (by rw [e.2.2.1.1 37 (by decide)]; exact o1) (by omega)
        exact this
      · unfold yV
        rw [if_pos (by omega), if_pos v5]
        rw [show nm (zI σ g 3) = [zI σ g 3] from if_pos (by omega)] at b
        rw [g38, e38, g39, o3] at x
        exact (RBd.use b).piece e' x
    have f80 : ∀ s : Int, s = (if zI σ g 6 = 0 ∧ zI σ g 7 = 0 then 0 else 128) → dsz (zI σ g 6) (zI σ g 7) (zI σ g 3) (zI σ g 2) = 2 → wpX11_emitForm_80 k (mdv (zI σ g 6) (zI σ g 7)) s ρ Q := by
      intro s hs' hz
      unfold wpX11_emitForm_80 wpX11_emitForm_217
      refine r_octD hB hs (by omega) (by split at hs' <;> omega) (fun ρ1 b e => ?_)
      have g39 : zI ρ1 0 39 = zI ρ 0 39 := e.2.2.1.1 39 (by decide)
      exact ⟨by omega, val _ ρ1 (by rw [hs']; split <;> omega) hz b e⟩
    have f68 : ∀ s : Int, (s = 0 ∨ s = 1) → (s = 1 ↔ zI σ g 6 = 0 ∧ zI σ g 7 = 0) → dsz (zI σ g 6) (zI σ g 7) (zI σ g 3) (zI σ g 2) = 2 → wpX11_emitForm_68 k (mdv (zI σ g 6) (zI σ g 7)) s ρ Q := by
      intro s hs' hb hz
      unfold wpX11_emitForm_68
      refine ⟨by omega, fun q => f80 128 ?_ hz, fun q => f80 0 ?_ hz⟩
      · rw [if_neg (fun z => by have := hb.mpr z; omega)]
      · rw [if_pos (hb.mp (by omega))]
    have f49 : ∀ s : Int, (s = 0 ∨ s = 1) → (s = 1 ↔ zI σ g 6 = 0 ∧ zI σ g 7 = 0) → wpX11_emitForm_49 k (mdv (zI σ g 6) (zI σ g 7)) s ρ Q := by
      intro s hs' hb
      have sg : (zI ρ 0 38 + 32768) % 65536 - 32768 = sgn (zI σ g 2) := by rw [e38]; rfl
      unfold wpX11_emitForm_49
      rw [sg]
      refine ⟨by omega, fun q => f68 s hs' hb (if_pos (Or.inl (hb.mp (by omega)))), fun z => ?_⟩
      have nb : ¬ (zI σ g 6 = 0 ∧ zI σ g 7 = 0) := fun q => by have := hb.mpr q; omega
      refine ⟨by omega, fun n => ?_, fun n => f68 s hs' hb (if_pos (Or.inr (by omega)))⟩
      have n1 : ¬ ((zI σ g 6 = 0 ∧ zI σ g 7 = 0) ∨ 0 ≤ zI σ g 3) := fun q => q.elim nb (by omega)
      have n0 : nm (zI σ g 3) = [] := if_neg (by omega)
      have f152 : ¬ (sgn (zI σ g 2) = 0 ∧ mdv (zI σ g 6) (zI σ g 7) ≠ 6) → wpX11_emitForm_152 k (mdv (zI σ g 6) (zI σ g 7)) (sgn (zI σ g 2)) ρ Q := by
        intro n2
        have f192 : ¬ (-128 ≤ sgn (zI σ g 2) ∧ sgn (zI σ g 2) ≤ 127) → wpX11_emitForm_192 k (mdv (zI σ g 6) (zI σ g 7)) ρ Q := by
          intro n3
          have hz : dsz (zI σ g 6) (zI σ g 7) (zI σ g 3) (zI σ g 2) = 2 := by unfold dsz; rw [if_neg n1, if_neg n2, if_neg n3]
          unfold wpX11_emitForm_192 wpX11_emitForm_217
          refine r_octD hB hs (by omega) (by omega) (fun ρ1 b e => ?_)
          exact (val _ ρ1 (by rw [if_neg nb]; omega) hz b e).1 (by rw [e.2.2.1.1 39 (by decide)]; exact n)
        unfold wpX11_emitForm_152 wpX11_emitForm_217
        refine ⟨by unfold sgn; omega, fun q => f192 (by omega), fun q => ⟨fun q' => f192 (by omega), fun q' => ?_⟩⟩
        have hz : dsz (zI σ g 6) (zI σ g 7) (zI σ g 3) (zI σ g 2) = 1 := by unfold dsz; rw [if_neg n1, if_neg n2, if_pos ⟨by omega, by omega⟩]
        rw [n0, List.nil_append] at hB
        refine r_octD hB hs (by omega) (by omega) (fun ρ1 b e => ?_)
        refine r_octD b (e.s33 hs) (by have := e.s6; have := e.2.2.2.2; omega) (by omega) (fun ρ2 b2 e2 => hQ ρ2 ?_ (e.tr e2))
        rw [fold, if_pos hz, hz, if_neg nb, show (64 * 1 + 8 * k + mdv (zI σ g 6) (zI σ g 7)) % 256 = 64 + 8 * k + mdv (zI σ g 6) (zI σ g 7) by omega, show zI σ g 2 % 256 = sgn (zI σ g 2) % 256 by unfold sgn; omega]
        exact b2
      refine ⟨fun q => f152 (fun w => q w.1), fun q => ⟨by omega, fun w => f152 (fun y => y.2 w), fun w => ?_⟩⟩
      have hz : dsz (zI σ g 6) (zI σ g 7) (zI σ g 3) (zI σ g 2) = 0 := by unfold dsz; rw [if_neg n1, if_pos ⟨q, w⟩]
      rw [n0, List.nil_append] at hB
      unfold wpX11_emitForm_217
      refine r_octD hB hs (by omega) (by omega) (fun ρ1 b e => hQ ρ1 ?_ (e.up (by decide)))
      rw [fold, hz, if_neg (by decide), if_neg (by decide), if_neg nb, show (64 * 0 + 8 * k + mdv (zI σ g 6) (zI σ g 7)) % 256 = 8 * k + mdv (zI σ g 6) (zI σ g 7) by omega]
      exact b
    refine ⟨by omega, fun _ => ?_, fun q => by omega⟩
    refine r_bits gg a6 a7 o4 o5 ⟨by omega, fun q => ?_, fun q => ⟨by omega, fun w => ?_, fun w => ?_⟩⟩
    · unfold wpX11_emitForm_48
      exact f49 0 (Or.inl rfl) ⟨fun z => absurd z (by decide), fun z => by unfold RGr at o4; omega⟩
    · unfold wpX11_emitForm_48
      exact f49 0 (Or.inl rfl) ⟨fun z => absurd z (by decide), fun z => by unfold RGr at o5; omega⟩
    · exact f49 1 (Or.inr rfl) ⟨fun _ => by unfold RGr at o4 o5; omega, fun _ => rfl⟩
/-! X: statements on both sides -/
theorem Em.sy {h : Int → Int} {L i k : Int} {E : Int → Int} {σ ρ ρ' : ZS} (e : Em k ρ ρ') (s : SY h L E σ i ρ) : SY h L E σ i ρ' := s.fr e.2.2.1 (by decide) (by decide) (by decide) (by decide) (by decide) (by decide) (by decide) (by decide)
theorem Em.fresh {k : Int} {ρ ρ' : ZS} (e : Em k ρ ρ') (f : Fresh ρ) : Fresh ρ' := by
  intro q
  rw [e.2.2.1.1 7 (by decide)] at q
  rw [e.2.2.1.1 17 (by decide), e.2.2.1.1 6 (by decide), e.2.2.1.1 23 (by decide)]
  exact f q
theorem Em.or {k g : Int} {σ ρ ρ' : ZS} (e : Em k ρ ρ') (o : OR σ g ρ) : OR σ g ρ' := o.k rfl (e.2.2.1.1 37 (by decide)) (e.2.2.1.1 38 (by decide)) (e.2.2.1.1 39 (by decide)) (e.2.2.1.1 41 (by decide)) (e.2.2.1.1 42 (by decide))
/-- what a statement of the class does: x tells whether it goes on -/
def CSt (σ τ : ZS) (x : Int) : Prop := (0 ≤ x ∧ x ≤ 1) ∧ PG σ τ ∧ (x = 1 → 2 * zI τ 13 7 ≤ 2 * zI σ 13 7 + (zA σ 12 2 (zI τ 14 4) - zA σ 12 2 (zI σ 14 4)) + 3 ∧ zA σ 12 2 (zI σ 14 4) ≤ zA σ 12 2 (zI τ 14 4))
/-- the reference's W does the same -/
def TSt (h : Int → Int) (L : Int) (E M : Int → Int) (σ τ : ZS) (x : Int) (W : ZS → (Int → ZS → Prop) → Prop) : Prop := ∀ (ρ : ZS) (Qr : Int → ZS → Prop), SY h L E σ (zI σ 14 4) ρ → RB σ ρ (M (zI σ 14 4)) [] → Fresh ρ → zI ρ 0 31 + 2 ≤ 2 * zI ρ 0 6 → (x = 1 → ∀ ρ' : ZS, SY h L E τ (zI τ 14 4) ρ' → RB τ ρ' (M (zI τ 14 4)) [] → Fresh ρ' → PR ρ ρ' → zI ρ' 0 31 ≤ 2 * zI ρ' 0 6 → Qr 1 ρ') → (x = 0 → ∀ ρ' : ZS, GG ρ' → PR ρ ρ' → Qr 0 ρ') → W ρ Qr
theorem t_single {h : Int → Int} {L a k c : Int} {E M : Int → Int} {σ : ZS} {Q : Int → ZS → Prop} (hP : PS σ) (hC : CT h L E M σ) (ho : zI σ 14 5 = 1) (hz : zI σ 13 7 ≤ 242) (hac : (c = 29 ∧ a = 209 ∧ k = 4) ∨ (c = 30 ∧ a = 209 ∧ k = 5) ∨ (c = 31 ∧ a = 247 ∧ k = 3) ∨ (c = 32 ∧ a = 247 ∧ k = 4) ∨ (c = 33 ∧ a = 247 ∧ k = 6)) (hQ : ∀ (x : Int) (τ : ZS), CSt σ τ x → TSt h L E M σ τ x (wpX11_single c) → Q x τ) : wpX8_single a k σ Q := by
  have hab : AB 3 9 := by unfold AB; decide
  unfold wpX8_single
  refine t_operand (b := 9) (by decide) hP hC hab (fun τ og oi ok tr => ⟨by decide, fun _ => ?_, fun q => absurd q (by decide)⟩) (fun τ og tr => ⟨by decide, fun q => absurd rfl q, fun _ => hQ 0 τ ⟨by decide, (PG.rf hP).o5 og, fun q => absurd q (by decide)⟩ (fun ρ Qr rS rB rF r31 h1 h0 => ?_)⟩)
  rotate_left
  · unfold wpX11_single
    exact tr ρ [] _ rS rB rF (fun ρ' g p => ⟨by decide, fun q => absurd rfl q, fun _ => h0 rfl ρ' g p⟩)
  have pg := (PG.rf hP).o5 og
  have o1 : zI τ 14 5 = 1 := pg.2.2.trans ho
  have lv := og.lv (by decide)
  have s13 : zI τ 13 7 = zI σ 13 7 := ob_I lv.2.2.1 7
  have kk : (zI τ 5 0 = 1 ∧ zA σ 12 2 (zI σ 14 4) + 2 ≤ zA σ 12 2 (zI τ 14 4)) ∨ (zI τ 5 0 = 2 ∧ zA σ 12 2 (zI σ 14 4) + 3 ≤ zA σ 12 2 (zI τ 14 4)) := by
    rcases ok with ⟨q, -, q'⟩ | ⟨q, q', -⟩ | ⟨q, -, q'⟩ | ⟨q, q', -⟩
    · exact Or.inl ⟨q, q'⟩
    · exact q'.elim (fun z => absurd (by decide) z) (fun z => absurd (by decide) z)
    · exact Or.inr ⟨q, q'⟩
    · exact absurd (by decide) q'
  refine x_addWithM (by decide) og.1 o1 oi (by omega) (fun υ up uk us us' uy => hQ 1 υ ⟨by decide, pg.ad up uk, fun _ => ?_⟩ (fun ρ Qr rS rB rF r31 h1 h0 => ?_))
  · rw [uk.I (by decide) 4]
    rcases kk with ⟨k1, q⟩ | ⟨k1, q⟩
    · rw [if_pos k1] at us'; omega
    · rw [if_neg (by omega)] at us'; omega
  · unfold wpX11_single
    refine tr ρ [] _ rS rB rF (fun ρ1 s1 b1 d1 r1 => ⟨by decide, fun _ => ?_, fun q => absurd q (by decide)⟩)
    obtain ⟨g1, p1, q31, -, q1⟩ := d1
    obtain ⟨q6, qU, qF⟩ := q1 rfl
    have e33 : zI ρ1 0 33 = 1 := by rw [b1.2.2.1]; exact o1
    have b1' : RBd τ (yS τ) ρ1 (M (zI τ 14 4)) (nm (zI τ 5 3) ++ []) := by rw [List.append_nil]; exact b1
    have f27 : wpX11_single_27 c a ρ1 Qr := by
      unfold wpX11_single_27
      refine r_octD b1' e33 (by omega) (by omega) (fun ρ2 b2 e2 => ?_)
      have j6 := e2.s6
      have j31 := e2.2.2.2.2
      have f73 : wpX11_single_73 k ρ2 Qr := by
        unfold wpX11_single_73
        refine r_emitForm (g := 5) b2 (e2.or r1) oi.1 (by omega) (by omega) (e2.ops qU) (e2.s33 e33) (by omega) (fun ρ3 b3 e3 => ?_)
        have i6 := e3.s6
        have i31 := e3.2.2.2.2
        refine h1 rfl ρ3 ?_ ?_ (e3.fresh (e2.fresh qF)) (p1.tr (e2.2.1.tr e3.2.1)) (by omega)
        · rw [uk.I (by decide) 4]
          exact (e3.sy (e2.sy s1)).k (uk 11 (by decide)) (uk 12 (by decide))
        · rw [uk.I (by decide) 4]
          refine b3.b (uk 11 (by decide)) (uk.I (by decide) 5) ?_
          rw [uy, show a % 256 = a by omega]
      refine ⟨by omega, fun n29 => ⟨fun n30 => ⟨fun n31 => ⟨fun n32 => ?_, fun y => ?_⟩, fun y => ?_⟩, fun y => ?_⟩, fun y => ?_⟩
      · rw [show (6 : Int) = k by omega]; exact f73
      · rw [show (4 : Int) = k by omega]; exact f73
      · rw [show (3 : Int) = k by omega]; exact f73
      · rw [show (5 : Int) = k by omega]; exact f73
      · rw [show (4 : Int) = k by omega]; exact f73
    refine ⟨by omega, fun y => ?_, fun y => ?_⟩
    · rw [show (247 : Int) = a by omega]; exact f27
    · rw [show (209 : Int) = a by omega]; exact f27
/-- inc, dec, push, pop -/
theorem t_onRegister {h : Int → Int} {L a s al b c : Int} {E M : Int → Int} {σ : ZS} {Q : Int → ZS → Prop} (hP : PS σ) (hC : CT h L E M σ) (ho : zI σ 14 5 = 1) (hz : zI σ 13 7 ≤ 242) (hac : (c = 25 ∧ a = 64 ∧ s = 0 ∧ al = 1 ∧ b = 1) ∨ (c = 26 ∧ a = 72 ∧ s = 0 ∧ al = 1 ∧ b = 1) ∨ (c = 27 ∧ a = 80 ∧ s = 6 ∧ al = 25 ∧ b = 3) ∨ (c = 28 ∧ a = 88 ∧ s = 7 ∧ al = 9 ∧ b = 5)) (hQ : ∀ (x : Int) (τ : ZS), CSt σ τ x → TSt h L E M σ τ x (wpX11_stack c) → Q x τ) : wpX8_onRegister a s al σ Q := by
  have hab : AB al b := by
    rcases hac with ⟨-, -, -, rfl, rfl⟩ | ⟨-, -, -, rfl, rfl⟩ | ⟨-, -, -, rfl, rfl⟩ | ⟨-, -, -, rfl, rfl⟩ <;> (unfold AB; decide)
  -- the reference's road to its operand
  have road : ∀ (ρ : ZS) (Qr : Int → ZS → Prop), wpX11_operand b ρ (fun x14 σ15 => (-2147483648 ≤ x14 ∧ x14 ≤ 2147483647) ∧ (¬ x14 = 0 → wpX11_stack_47 c (if c = 27 then 1 else 0) σ15 Qr) ∧ (x14 = 0 → wpX11_stack_45 σ15 Qr)) → wpX11_stack c ρ Qr := by
    intro ρ Qr k
    unfold wpX11_stack wpX11_stack_11 wpX11_stack_39
    rcases hac with ⟨rfl, -, -, -, rfl⟩ | ⟨rfl, -, -, -, rfl⟩ | ⟨rfl, -, -, -, rfl⟩ | ⟨rfl, -, -, -, rfl⟩
    · exact ⟨by decide, fun _ => ⟨by decide, fun q => absurd q (by decide), fun _ => k⟩, fun q => absurd q (by decide)⟩
    · exact ⟨by decide, fun _ => ⟨by decide, fun q => absurd q (by decide), fun _ => k⟩, fun q => absurd q (by decide)⟩
    · exact ⟨by decide, fun q => absurd rfl q, fun _ => ⟨by decide, fun _ => ⟨by decide, fun q => absurd q (by decide), fun _ => k⟩, fun q => absurd (by decide) q⟩⟩
    · exact ⟨by decide, fun _ => ⟨by decide, fun _ => ⟨by decide, fun _ => k, fun q => absurd rfl q⟩, fun q => absurd (by decide) q⟩, fun q => absurd q (by decide)⟩
  unfold wpX8_onRegister wpX8_onRegister_53
  refine t_operand (b := b) (by decide) hP hC hab (fun τ og oi ok tr => ⟨by decide, fun _ => ?_, fun q => absurd q (by decide)⟩) (fun τ og tr => ⟨by decide, fun q => absurd rfl q, fun _ => hQ 0 τ ⟨by decide, (PG.rf hP).o5 og, fun q => absurd q (by decide)⟩ (fun ρ Qr rS rB rF r31 h1 h0 => road ρ Qr (tr ρ [] _ rS rB rF (fun ρ' g p => ⟨by decide, fun q => absurd rfl q, fun _ => h0 rfl ρ' g p⟩)))⟩)
  have pg := (PG.rf hP).o5 og
  have o1 : zI τ 14 5 = 1 := pg.2.2.trans ho
  have lv := og.lv (by decide)
  have s13 : zI τ 13 7 = zI σ 13 7 := ob_I lv.2.2.1 7
  have kk : (zI τ 5 0 = 1 ∨ zI τ 5 0 = 8) ∧ zA σ 12 2 (zI σ 14 4) + 2 ≤ zA σ 12 2 (zI τ 14 4) := by
    rcases ok with ⟨q, -, q'⟩ | ⟨q, -, q'⟩ | ⟨q, q', -⟩ | ⟨q, q', -⟩
    · exact ⟨Or.inl q, q'⟩
    · exact ⟨Or.inr q, q'⟩
    · exfalso; rcases hac with ⟨-, -, -, rfl, -⟩ | ⟨-, -, -, rfl, -⟩ | ⟨-, -, -, rfl, -⟩ | ⟨-, -, -, rfl, -⟩ <;> exact q' (by decide)
    · exfalso; rcases hac with ⟨-, -, -, rfl, -⟩ | ⟨-, -, -, rfl, -⟩ | ⟨-, -, -, rfl, -⟩ | ⟨-, -, -, rfl, -⟩ <;> exact q' (by decide)
  have k8 : zI τ 5 0 = 8 → c = 27 ∨ c = 28 := by
    intro q
    rcases ok with ⟨q', -⟩ | ⟨-, q', -⟩ | ⟨q', -⟩ | ⟨q', -⟩
    · omega
    · rcases hac with ⟨-, -, -, rfl, -⟩ | ⟨-, -, -, rfl, -⟩ | ⟨z, -⟩ | ⟨z, -⟩
      · exact q'.elim (fun z => absurd (by decide) z) (fun z => absurd (by decide) z)
      · exact q'.elim (fun z => absurd (by decide) z) (fun z => absurd (by decide) z)
      · exact Or.inl z
      · exact Or.inr z
    · omega
    · omega
  have r5 := oi.1.1
  -- the byte
  have byt : ∀ v : Int, ((zI τ 5 0 = 1 ∧ v = a + zI τ 5 1) ∨ (zI τ 5 0 = 8 ∧ v = s + 8 * zI τ 5 1)) → wpX0_addByte v τ (fun σ2 => Q 1 σ2) := by
    intro v hv
    refine x_addByte og.1 o1 (by omega) (fun υ up uk us uy => hQ 1 υ ⟨by decide, pg.ad up uk, fun _ => by rw [uk.I (by decide) 4]; omega⟩ (fun ρ Qr rS rB rF r31 h1 h0 => road ρ Qr (tr ρ [] _ rS rB rF (fun ρ1 s1 b1 d1 r1 => ⟨by decide, fun _ => ?_, fun q => absurd q (by decide)⟩))))
    obtain ⟨g1, p1, q31, -, q1⟩ := d1
    obtain ⟨q6, qU, qF⟩ := q1 rfl
    have e33 : zI ρ1 0 33 = 1 := by rw [b1.2.2.1]; exact o1
    have n3 : zI τ 5 3 = -1 := by
      rcases r1 with ⟨-, -, -, -, -, q⟩ | ⟨-, -, -, -, -, q⟩ | ⟨q, -⟩ | ⟨q, -⟩
      · exact q
      · exact q
      · omega
      · omega
    have r37 : (zI τ 5 0 = 1 ∧ zI ρ1 0 37 = 0 ∧ zI ρ1 0 38 = zI τ 5 1 ∧ 0 ≤ zI τ 5 1 ∧ zI τ 5 1 < 8) ∨ (zI τ 5 0 = 8 ∧ zI ρ1 0 37 = 1 ∧ zI ρ1 0 38 = zI τ 5 1 ∧ 0 ≤ zI τ 5 1 ∧ zI τ 5 1 < 4) := by
      rcases r1 with ⟨x1, x2, x3, x4, x5, -⟩ | ⟨x1, x2, x3, x4, x5, -⟩ | ⟨q, -⟩ | ⟨q, -⟩
      · exact Or.inl ⟨x1, x2, x3, x4, x5⟩
      · exact Or.inr ⟨x1, x2, x3, x4, x5⟩
      · omega
      · omega
    have b1' : RBd τ (yS τ) ρ1 (M (zI τ 14 4)) [] := by rw [n3] at b1; exact b1
    have fin : ∀ w : Int, w = v → wpX11_octet w ρ1 (fun σ2 => wpX11_stack_123 σ2 Qr) := by
      intro w hw
      refine r_octD b1' e33 (by omega) (by omega) (fun ρ2 b2 e2 => ?_)
      have j6 := e2.s6
      have j31 := e2.2.2.2.2
      unfold wpX11_stack_123
      refine h1 rfl ρ2 ?_ ?_ (e2.fresh qF) (p1.tr e2.2.1) (by omega)
      · rw [uk.I (by decide) 4]
        exact (e2.sy s1).k (uk 11 (by decide)) (uk 12 (by decide))
      · rw [uk.I (by decide) 4]
        refine b2.b (uk 11 (by decide)) (uk.I (by decide) 5) ?_
        rw [uy, hw, show v % 256 = v by omega]
    have l37 : -2147483648 ≤ zI ρ1 0 37 ∧ zI ρ1 0 37 ≤ 2147483647 := by omega
    unfold wpX11_stack_47 wpX11_stack_115 wpX11_stack_67
    refine ⟨l37, fun y => ⟨by omega, fun n25 => ⟨fun n26 => ⟨by split <;> decide, fun z => fin _ ?_, fun z => fin _ ?_⟩, fun y26 => fin _ ?_⟩, fun y25 => fin _ ?_⟩, fun y => ⟨by split <;> decide, fun z => fin _ ?_, fun z => fin _ ?_⟩⟩
    · have : c ≠ 27 := fun q => by rw [if_pos q] at z; exact absurd z (by decide)
      omega
    · have : c = 27 := by
        by_cases q : c = 27
        · exact q
        · rw [if_neg q] at z; exact absurd rfl z
      omega
    · omega
    · omega
    · have : c ≠ 27 := fun q => by rw [if_pos q] at z; exact absurd z (by decide)
      have := k8 (by omega)
      omega
    · have : c = 27 := by
        by_cases q : c = 27
        · exact q
        · rw [if_neg q] at z; exact absurd rfl z
      omega
  exact ⟨by omega, fun y => byt _ (Or.inr ⟨by omega, rfl⟩), fun y => byt _ (Or.inl ⟨y, rfl⟩)⟩
/-! X: add, or, and, sub, xor, cmp on both sides -/
theorem r_emitValD {g : Int} {σ ρ : ZS} {d : YD} {m : Int} {pend : List Int} {Q : ZS → Prop} (hB : RBd σ d ρ m (nm (zI σ g 3) ++ pend)) (h4 : zI σ g 0 = 4) (hO : OR σ g ρ) (hU : OpU ρ) (hs : zI ρ 0 33 = 1) (hp : zI ρ 0 31 + 1 ≤ 2 * zI ρ 0 6 + 8) (hQ : ∀ ρ' : ZS, RBd σ (yV d (zI σ g 3) (zI σ g 2) (zI σ g 5)) ρ' m pend → Em 1 ρ ρ' → Q ρ') : wpX11_emitValue ρ Q := by
  have gg := hB.1
  have l37 := gg.2.1.2.2.2.2.2.2.2.2.2.2.2.2.2.1
  have l38 := gg.2.1.2.2.2.2.2.2.2.2.2.2.2.2.2.2.1
  have l39 := gg.2.1.2.2.2.2.2.2.2.2.2.2.2.2.2.2.2.1
  have ho : (zI σ g 3 = -1 ∧ zI ρ 0 37 = 3 ∧ zI ρ 0 38 = zI σ g 2) ∨ (0 ≤ zI σ g 3 ∧ zI σ g 2 = 0 ∧ zI ρ 0 39 = zI σ g 3 ∧ ((zI σ g 5 = 0 ∧ zI ρ 0 37 = 4) ∨ (zI σ g 5 = 1 ∧ zI ρ 0 37 = 5))) := by
    rcases hO with ⟨q, -⟩ | ⟨q, -⟩ | ⟨q, -⟩ | ⟨-, q⟩
    · omega
    · omega
    · omega
    · exact q
  unfold wpX11_emitValue wpX11_emitValue_36 wpX11_emitValue_45
  unfold yV at hQ
  rcases ho with ⟨o1, o2, o3⟩ | ⟨o1, o2, o3, o4⟩
  · have n0 : nm (zI σ g 3) = [] := by rw [o1]; rfl
    rw [n0, List.nil_append] at hB
    rw [if_neg (by omega), ← o3] at hQ
    exact ⟨by omega, fun q => absurd o2 q, fun _ => x_piece gg hs hp (by decide) (fun q => absurd q (by decide)) (fun q => absurd q (by decide)) (by omega) (by decide) (by decide) (fun q => by omega) (fun ρ' e x => hQ ρ' (hB.piece e x) e)⟩
  · have n0 : nm (zI σ g 3) = [zI σ g 3] := if_pos o1
    rw [n0] at hB
    have hu := hU.2 (by omega)
    rw [if_pos o1] at hQ
    refine ⟨by omega, fun n3 => ⟨fun n4 => ?_, fun y4 => ?_⟩, fun q => by omega⟩
    · rw [if_neg (by omega)] at hQ
      refine x_piece gg hs hp (by decide) (fun _ _ => by omega) (fun q => absurd q (by decide)) (by omega) (by decide) (by decide) (fun _ => hu.2) (fun ρ' e x => hQ ρ' ?_ e)
      rw [o3] at x
      exact (RBd.use hB).piece e x
    · rw [if_pos (by omega), o2] at hQ
      refine x_piece gg hs hp (by decide) (fun _ _ => by omega) (fun q => absurd q (by decide)) (by omega) (by decide) (by decide) (fun _ => hu.2) (fun ρ' e x => hQ ρ' ?_ e)
      rw [o3] at x
      exact (RBd.use hB).piece e x
theorem t_arithmetic {h : Int → Int} {L n : Int} {E M : Int → Int} {σ : ZS} {Q : Int → ZS → Prop} (hP : PS σ) (hC : CT h L E M σ) (ho : zI σ 14 5 = 1) (hz : zI σ 13 7 ≤ 242) (hn : 0 ≤ n ∧ n < 8) (hQ : ∀ (x : Int) (τ : ZS), CSt σ τ x → TSt h L E M σ τ x (wpX11_reckon n) → Q x τ) : wpX8_arithmetic n σ Q := by
  have ab1 : AB 3 9 := by unfold AB; decide
  unfold wpX8_arithmetic wpX8_arithmetic_21
  refine t_operand (b := 9) (by decide) hP hC ab1 (fun τ og oi ok tr => ⟨by decide, fun q => absurd q (by decide), fun _ => ?_⟩) (fun τ og tr => ⟨by decide, fun _ => hQ 0 τ ⟨by decide, (PG.rf hP).o5 og, fun q => absurd q (by decide)⟩ (fun ρ Qr rS rB rF r31 h1 h0 => ?_), fun q => absurd rfl q⟩)
  rotate_left
  · unfold wpX11_reckon
    exact tr ρ [] _ rS rB rF (fun ρ' g p => ⟨by decide, fun q => absurd rfl q, fun _ => h0 rfl ρ' g p⟩)
  have pg := (PG.rf hP).o5 og
  have lv := og.lv (by decide)
  have hC1 := hC.k lv.1 lv.2.1
  have i0 := og.1.2.2.1.1
  have i1 : zI τ 14 4 < zI τ 12 3 := by have := og.1.2.2.1; omega
  have s13 : zI τ 13 7 = zI σ 13 7 := ob_I lv.2.2.1 7
  have w2 : zA τ 12 2 = zA σ 12 2 := ob_A lv.2.1 2
  have kk : (zI τ 5 0 = 1 ∧ zA σ 12 2 (zI σ 14 4) + 2 ≤ zA σ 12 2 (zI τ 14 4)) ∨ (zI τ 5 0 = 2 ∧ zA σ 12 2 (zI σ 14 4) + 3 ≤ zA σ 12 2 (zI τ 14 4)) := by
    rcases ok with ⟨q, -, q'⟩ | ⟨q, q', -⟩ | ⟨q, -, q'⟩ | ⟨q, q', -⟩
    · exact Or.inl ⟨q, q'⟩
    · exact q'.elim (fun z => absurd (by decide) z) (fun z => absurd (by decide) z)
    · exact Or.inr ⟨q, q'⟩
    · exact absurd (by decide) q'
  -- how the reference's operand is known from the class's
  have fst : ∀ ρ1 : ZS, OR τ 5 ρ1 → (zI τ 5 0 = 1 ∧ zI ρ1 0 37 = 0) ∨ (zI τ 5 0 = 2 ∧ zI ρ1 0 37 = 2) := by
    intro ρ1 r
    rcases r with ⟨a, b, -⟩ | ⟨a, -⟩ | ⟨a, b, -⟩ | ⟨a, -⟩
    · exact Or.inl ⟨a, b⟩
    · omega
    · exact Or.inr ⟨a, b.1⟩
    · omega
  -- a comma that is missing
  have bad : zA τ 12 0 (zI τ 14 4) ≠ 44 → Q 0 τ := by
    intro ne
    refine hQ 0 τ ⟨by decide, pg, fun q => absurd q (by decide)⟩ (fun ρ Qr rS rB rF r31 h1 h0 => ?_)
    unfold wpX11_reckon wpX11_reckon_66
    refine tr ρ [] _ rS rB rF (fun ρ1 s1 b1 d1 r1 => ⟨by decide, fun _ => ?_, fun q => absurd q (by decide)⟩)
    exact r_take hC1 i0 i1 s1 b1 (by unfold cS; omega) (fun t => absurd t ne) (fun _ => ⟨by decide, fun _ => h0 rfl _ (GG_34 b1.1) (d1.2.1.tr PR_fault), fun q => absurd rfl q⟩)
  refine c_take og.1 (by decide) (fun e44 p2 => ⟨by decide, fun _ => ?_, fun q => absurd q (by decide)⟩) (fun ne => ⟨by decide, fun q => absurd rfl q, fun _ => bad ne⟩)
  have pg2 := pg.on (show zA τ 12 0 (zI τ 14 4) ≠ 0 by omega)
  have q5 : ob (zsI τ 14 4 (zI τ 14 4 + 1)) 5 = ob τ 5 := ob_i (by decide)
  have q11 : ob (zsI τ 14 4 (zI τ 14 4 + 1)) 11 = ob τ 11 := ob_i (by decide)
  have q12 : ob (zsI τ 14 4 (zI τ 14 4 + 1)) 12 = ob τ 12 := ob_i (by decide)
  have q13 : ob (zsI τ 14 4 (zI τ 14 4 + 1)) 13 = ob τ 13 := ob_i (by decide)
  have qa : zI (zsI τ 14 4 (zI τ 14 4 + 1)) 14 4 = zI τ 14 4 + 1 := zI_s
  have qo : zI (zsI τ 14 4 (zI τ 14 4 + 1)) 14 5 = zI τ 14 5 := zI_f (by decide)
  have hC2 := hC1.k q11 q12
  have pl1 := (hC1.pl i0 i1 (show zA τ 12 0 (zI τ 14 4) ≠ 0 by omega)).1
  rw [w2] at pl1
  have r5 := oi.1.1
  -- the reference, from the start to behind its second operand
  have f40 : ∀ (v s : Int), AB v s → ((zI τ 5 0 = 1 ∧ s = 25) ∨ (zI τ 5 0 = 2 ∧ s = 17)) → zand v 8 = 0 → zand v 16 = 0 → (zI τ 5 0 = 2 → zand v 2 = 0) → wpX8_arithmetic_40 n v (zsI τ 14 4 (zI τ 14 4 + 1)) Q := by
    intro v s ab hs v8 v16 v2
    have road : ∀ (ρ : ZS) (Qr : Int → ZS → Prop), SY h L E σ (zI σ 14 4) ρ → RB σ ρ (M (zI σ 14 4)) [] → Fresh ρ → (∀ ρ1 ρ2 : ZS, OR τ 5 ρ1 → Opd ρ 1 ρ1 → PR ρ1 ρ2 → zI ρ2 0 31 = zI ρ1 0 31 → zI ρ1 0 6 + 1 ≤ zI ρ2 0 6 → SY h L E (zsI τ 14 4 (zI τ 14 4 + 1)) (zI (zsI τ 14 4 (zI τ 14 4 + 1)) 14 4) ρ2 → RB (zsI τ 14 4 (zI τ 14 4 + 1)) ρ2 (M (zI (zsI τ 14 4 (zI τ 14 4 + 1)) 14 4)) (nm (zI τ 5 3)) → Fresh ρ2 → wpX11_reckon_60 n (zI ρ1 0 37) (zI ρ1 0 38) (zI ρ1 0 39) (zI ρ1 0 41) (zI ρ1 0 42) s ρ2 Qr) → wpX11_reckon n ρ Qr := by
      intro ρ Qr rS rB rF k
      unfold wpX11_reckon
      refine tr ρ [] _ rS rB rF (fun ρ1 s1 b1 d1 r1 => ⟨by decide, fun _ => ?_, fun q => absurd q (by decide)⟩)
      refine r_take hC1 i0 i1 s1 b1 (by unfold cS; omega) (fun _ ρ2 s2 b2 f2 g2 p2' c1 c2 => ?_) (fun ne => absurd e44 ne)
      have l37 : -2147483648 ≤ zI ρ1 0 37 ∧ zI ρ1 0 37 ≤ 2147483647 := by have := fst ρ1 r1; omega
      have kk2 := k ρ1 ρ2 r1 d1 p2' (g2.1 31 (by decide)) c1 (by rw [qa]; exact s2.k q11 q12) (by rw [qa, hC1.m1 i0 i1 (by omega)]; exact b2.k q11 q13 qo) f2
      refine ⟨by decide, fun q => absurd q (by decide), fun _ => ⟨l37, fun y => ?_, fun y => ?_⟩⟩
      · have := fst ρ1 r1
        rw [show (17 : Int) = s by omega]; exact kk2
      · have := fst ρ1 r1
        rw [show (25 : Int) = s by omega]; exact kk2
    unfold wpX8_arithmetic_40 wpX8_arithmetic_156
    refine t_operand (b := s) (by decide) pg2.1 hC2 ab (fun υ ug ui uk ut => ⟨by decide, fun _ => ?_, fun q => absurd q (by decide)⟩) (fun υ ug ut => ⟨by decide, fun q => absurd rfl q, fun _ => hQ 0 υ ⟨by decide, pg2.o6 ug, fun q => absurd q (by decide)⟩ (fun ρ Qr rS rB rF r31 h1 h0 => road ρ Qr rS rB rF (fun ρ1 ρ2 r1 d1 p12 e31 e6 s2 b2 f2 => ?_))⟩)
    rotate_left
    · unfold wpX11_reckon_60 wpX11_reckon_66
      exact ut ρ2 _ _ s2 b2 f2 (fun ρ' g p => ⟨by decide, fun q => absurd rfl q, fun _ => h0 rfl ρ' g (d1.2.1.tr (p12.tr p))⟩)
    have ul := ug.lv (by decide)
    have pg3 := pg2.o6 ug
    have uo : zI υ 14 5 = 1 := pg3.2.2.trans ho
    have u5 : ob υ 5 = ob τ 5 := (ug.2.1 5 (by decide)).trans q5
    have u5i : OPI υ 5 := oi.k (ul.1.trans q11) u5
    have us : zI υ 13 7 = zI σ 13 7 := by rw [ob_I ul.2.2.1 7, ob_I q13 7, s13]
    have k6 : (zI υ 6 0 = 1 ∨ (zI υ 6 0 = 2 ∧ zI τ 5 0 = 1) ∨ zI υ 6 0 = 4) ∧ zA σ 12 2 (zI τ 14 4) + 2 ≤ zA σ 12 2 (zI υ 14 4) := by
      have e2 : zA (zsI τ 14 4 (zI τ 14 4 + 1)) 12 2 = zA σ 12 2 := (ob_A q12 2).trans w2
      unfold OKo at uk
      rw [e2, qa] at uk
      rcases uk with ⟨q, -, q'⟩ | ⟨q, q', -⟩ | ⟨q, q', q''⟩ | ⟨q, -, q'⟩
      · exact ⟨Or.inl q, by omega⟩
      · exact absurd v16 (q'.elim (fun z => absurd v8 z) (fun z => z))
      · refine ⟨Or.inr (Or.inl ⟨q, ?_⟩), by omega⟩
        rcases kk with ⟨z, -⟩ | ⟨z, -⟩
        · exact z
        · exact absurd (v2 z) q'
      · exact ⟨Or.inr (Or.inr q), by omega⟩
    have r6 := ui.1.1
    have o5 := u5i.1.1
    have t0 : zI υ 5 0 = zI τ 5 0 := ob_I u5 0
    -- the end, seen from both sides
    have fin : ∀ ω : ZS, PS ω → kp [13] υ ω → zI ω 13 7 ≤ zI σ 13 7 + 4 → (zI υ 5 0 = 1 → zI ω 13 7 ≤ zI σ 13 7 + 3) → (∀ (ρ1 ρ3 : ZS) (Qr : Int → ZS → Prop), GG ρ1 → OR τ 5 ρ1 → OpU ρ1 → PR ρ1 ρ3 → OR υ 6 ρ3 → OpU ρ3 → zI ρ3 0 33 = 1 → zI ρ3 0 31 + 4 ≤ 2 * zI ρ3 0 6 → RBd υ (yS υ) ρ3 (M (zI υ 14 4)) (nm (zI τ 5 3) ++ nm (zI υ 6 3)) → (∀ ρ' : ZS, RBd υ (yS ω) ρ' (M (zI υ 14 4)) [] → SY h L E υ (zI υ 14 4) ρ3 → PR ρ3 ρ' → zI ρ' 0 6 = zI ρ3 0 6 → zI ρ' 0 31 ≤ zI ρ3 0 31 + 4 → (∀ f : Nat, f = 2 ∨ f = 5 ∨ f = 7 ∨ f = 8 ∨ f = 9 ∨ f = 10 ∨ f = 17 ∨ f = 23 → zI ρ' 0 f = zI ρ3 0 f) → zA ρ' 0 1 = zA ρ3 0 1 → Qr 1 ρ') → (∀ q31 : (-2147483648 ≤ zI ρ1 0 37 ∧ zI ρ1 0 37 ≤ 2147483647), SY h L E υ (zI υ 14 4) ρ3 → (¬ zI ρ1 0 37 = 0 → wpX11_reckon_118 n (zI ρ1 0 37) (zI ρ1 0 38) (zI ρ1 0 39) (zI ρ1 0 41) (zI ρ1 0 42) (zI ρ3 0 37) (zI ρ3 0 38) (zI ρ3 0 39) ρ3 Qr) ∧ (zI ρ1 0 37 = 0 → (-2147483648 ≤ (zI ρ3 0 37) ∧ (zI ρ3 0 37) ≤ 2147483647) ∧ ((zI ρ3 0 37) = 0 → wpX11_reckon_101 n (zI ρ1 0 38) ρ3 Qr) ∧ (¬ (zI ρ3 0 37) = 0 → (¬ (zI ρ3 0 37) = 2 → wpX11_reckon_118 n (zI ρ1 0 37) (zI ρ1 0 38) (zI ρ1 0 39) (zI ρ1 0 41) (zI ρ1 0 42) (zI ρ3 0 37) (zI ρ3 0 38) (zI ρ3 0 39) ρ3 Qr) ∧ ((zI ρ3 0 37) = 2 → wpX11_reckon_101 n (zI ρ1 0 38) ρ3 Qr))))) → Q 1 ω := by
      intro ω wp wk wz wz1 em
      refine hQ 1 ω ⟨by decide, pg3.ad wp wk, fun _ => ?_⟩ (fun ρ Qr rS rB rF r31 h1 h0 => road ρ Qr rS rB rF (fun ρ1 ρ2 r1 d1 p12 e31 e6 s2 b2 f2 => ?_))
      · rw [wk.I (by decide) 4]
        rcases kk with ⟨z, y⟩ | ⟨z, y⟩
        · have := wz1 (by omega); omega
        · omega
      · obtain ⟨g1, p1, q31, -, q1⟩ := d1
        obtain ⟨q6, qU, qF⟩ := q1 rfl
        unfold wpX11_reckon_60
        refine ut ρ2 _ _ s2 b2 f2 (fun ρ3 s3 b3 d3 r3 => ⟨by decide, fun _ => ?_, fun q => absurd q (by decide)⟩)
        obtain ⟨g3, p3, q331, -, q3⟩ := d3
        obtain ⟨q36, q3U, q3F⟩ := q3 rfl
        have l37 : -2147483648 ≤ zI ρ1 0 37 ∧ zI ρ1 0 37 ≤ 2147483647 := by have := fst ρ1 r1; omega
        have e33 : zI ρ3 0 33 = 1 := by rw [b3.2.2.1]; exact uo
        refine ⟨l37, em ρ1 ρ3 Qr g1 r1 qU (p12.tr p3) r3 q3U e33 (by omega) b3 (fun ρ' b' _ pr' e6' e31' ef ea => h1 rfl ρ' ?_ ?_ ?_ (p1.tr (p12.tr (p3.tr pr'))) (by omega)) l37 s3⟩
        · rw [wk.I (by decide) 4]
          obtain ⟨a1, a2, a3, a4, a5⟩ := s3
          exact SY.k ⟨(ef 2 (by omega)).trans a1, fun j j0 j1 => by rw [ea]; exact a2 j j0 j1, (ef 5 (by omega)).trans a3, e6'.trans a4, a5.k (ef 7 (by omega)) (ef 8 (by omega)) (ef 9 (by omega)) (ef 10 (by omega))⟩ (wk 11 (by decide)) (wk 12 (by decide))
        · rw [wk.I (by decide) 4]
          exact b'.b (wk 11 (by decide)) (wk.I (by decide) 5) rfl
        · intro q
          rw [ef 7 (by omega)] at q
          rw [ef 17 (by omega), e6', ef 23 (by omega)]
          exact q3F q
    -- the reference's two bytes and more, with the left operand put back
    have b118 : ∀ (ρ1 ρ3 : ZS) (Qr : Int → ZS → Prop) (a k : Int) (K K5 : ZS → Prop), GG ρ1 → OR τ 5 ρ1 → OpU ρ1 → PR ρ1 ρ3 → zI ρ3 0 33 = 1 → zI ρ3 0 31 + 4 ≤ 2 * zI ρ3 0 6 → RBd υ (yS υ) ρ3 (M (zI υ 14 4)) (nm (zI τ 5 3) ++ nm (zI υ 6 3)) → (0 ≤ a ∧ a ≤ 255) → (0 ≤ k ∧ k < 8) → (∀ ρ5 : ZS, wpX11_emitForm k ρ5 K → K5 ρ5) → (∀ ρ6 : ZS, RBd υ (yMt (yP (yS υ) 0 a 0) υ 5 k) ρ6 (M (zI υ 14 4)) (nm (zI υ 6 3)) → Em 3 (zsI (zsI (zsI (zsI (zsI ρ3 0 37 (zI ρ1 0 37)) 0 38 (zI ρ1 0 38)) 0 39 (zI ρ1 0 39)) 0 41 (zI ρ1 0 41)) 0 42 (zI ρ1 0 42)) ρ6 → K ρ6) → wpX11_octet a (zsI (zsI (zsI (zsI (zsI ρ3 0 37 (zI ρ1 0 37)) 0 38 (zI ρ1 0 38)) 0 39 (zI ρ1 0 39)) 0 41 (zI ρ1 0 41)) 0 42 (zI ρ1 0 42)) K5 := by
      intro ρ1 ρ3 Qr a k K K5 g1 r1 u1 p13 e33 e31 b3 ha hk h5 hK
      have l37 := g1.2.1.2.2.2.2.2.2.2.2.2.2.2.2.2.1
      have l38 := g1.2.1.2.2.2.2.2.2.2.2.2.2.2.2.2.2.1
      have l39 := g1.2.1.2.2.2.2.2.2.2.2.2.2.2.2.2.2.2.1
      have l41 := g1.2.1.2.2.2.2.2.2.2.2.2.2.2.2.2.2.2.2.1
      have l42 := g1.2.1.2.2.2.2.2.2.2.2.2.2.2.2.2.2.2.2.2.1
      have b4 : RBd υ (yS υ) (zsI (zsI (zsI (zsI (zsI ρ3 0 37 (zI ρ1 0 37)) 0 38 (zI ρ1 0 38)) 0 39 (zI ρ1 0 39)) 0 41 (zI ρ1 0 41)) 0 42 (zI ρ1 0 42)) (M (zI υ 14 4)) (nm (zI υ 5 3) ++ nm (zI υ 6 3)) := by
        rw [ob_I u5 3]
        exact ⟨GG_ops b3.1 l37 l38 l39 l41 l42, b3.2⟩
      refine r_octD b4 e33 (show zI ρ3 0 31 + 1 ≤ 2 * zI ρ3 0 6 + 8 by omega) (by omega) (fun ρ5 b5 e5 => ?_)
      have j6 : zI ρ5 0 6 = zI ρ3 0 6 := e5.s6
      have j31 : zI ρ5 0 31 ≤ zI ρ3 0 31 + 1 := e5.2.2.2.2
      refine h5 ρ5 (r_emitForm (g := 5) b5 (e5.or (r1.k u5 rfl rfl rfl rfl rfl)) u5i.1 hk (by omega) (e5.ops (u1.pr (p13.tr PR_ops) rfl rfl)) (e5.s33 e33) (by omega) (fun ρ6 b6 e6 => hK ρ6 b6 (e5.tr e6)))
    have hit : ∀ f : Nat, (f = 2 ∨ f = 5 ∨ f = 7 ∨ f = 8 ∨ f = 9 ∨ f = 10 ∨ f = 17 ∨ f = 23) → f ∉ ([31] : List Nat) := fun f hf q => by have := List.mem_singleton.mp q; omega
    refine ⟨by omega, fun n4 => ⟨by omega, fun y1 => ?_, fun y1 => ?_⟩, fun y4 => ?_⟩
    · -- memory, register
      have y2 : zI τ 5 0 = 2 := by omega
      have z6 : zI υ 6 0 = 1 := by omega
      refine x_addWithM (by decide) ug.1 uo u5i (by omega) (fun ω wp wk wz wz' wy => fin ω wp wk (by rw [if_neg y1] at wz'; omega) (fun q => absurd q y1) (fun ρ1 ρ3 Qr g1 r1 u1 p13 r3 u3 e33 e31 b3 k l37 s3 => ?_))
      have q37 := fst ρ1 r1
      have r6' : zI ρ3 0 37 = 0 ∧ zI ρ3 0 38 = zI υ 6 1 ∧ 0 ≤ zI υ 6 1 ∧ zI υ 6 1 < 8 ∧ zI υ 6 3 = -1 := by
        rcases r3 with ⟨-, q⟩ | ⟨q, -⟩ | ⟨q, -⟩ | ⟨q, -⟩
        · exact q
        · omega
        · omega
        · omega
      obtain ⟨x1, x2, x3, x4, x5⟩ := r6'
      refine ⟨fun _ => ?_, fun q => by omega⟩
      unfold wpX11_reckon_118 wpX11_reckon_164 wpX11_reckon_179 wpX11_reckon_210
      refine ⟨by omega, fun q => absurd x1 q, fun _ => ?_⟩
      have l38 := b3.1.2.1.2.2.2.2.2.2.2.2.2.2.2.2.2.2.1
      have l39 := b3.1.2.1.2.2.2.2.2.2.2.2.2.2.2.2.2.2.2.1
      refine b118 ρ1 ρ3 Qr (8 * n + 1) (zI ρ3 0 38) _ _ g1 r1 u1 p13 e33 e31 b3 (by omega) (by omega) (fun ρ5 w => ⟨by omega, fun q => absurd x1 q, fun _ => w⟩) (fun ρ6 b6 e6 => ⟨by omega, fun _ => k _ ?_ s3 ?_ e6.s6 (show zI ρ6 0 31 ≤ zI ρ3 0 31 + 4 from ?_) (fun f hf => ?_) ?_, fun q => by omega⟩)
      · rw [x5] at b6
        rw [wy, show (8 * n + 1) % 256 = 8 * n + 1 by omega, ← x2]
        exact ⟨GG_39 (GG_38 (GG_37 b6.1 (by omega)) l38) l39, b6.2⟩
      · exact PR_ops.tr (e6.2.1.tr ((PR_op (by decide)).tr ((PR_op (by decide)).tr (PR_op (by decide)))))
      · have : zI ρ6 0 31 ≤ zI ρ3 0 31 + 3 := e6.2.2.2.2
        omega
      · have e := e6.2.2.1.1 f (hit f hf)
        rcases hf with rfl | rfl | rfl | rfl | rfl | rfl | rfl | rfl <;> exact e
      · exact e6.2.2.1.2 1 (by decide)
    · -- register, register or memory
      have z6 : zI υ 6 0 = 1 ∨ zI υ 6 0 = 2 := by omega
      refine x_addWithM (by decide) ug.1 uo ui (by omega) (fun ω wp wk wz wz' wy => fin ω wp wk (by split at wz' <;> omega) (fun _ => by split at wz' <;> omega) (fun ρ1 ρ3 Qr g1 r1 u1 p13 r3 u3 e33 e31 b3 k l37 s3 => ?_))
      have r5' : zI ρ1 0 37 = 0 ∧ zI ρ1 0 38 = zI τ 5 1 ∧ 0 ≤ zI τ 5 1 ∧ zI τ 5 1 < 8 ∧ zI τ 5 3 = -1 := by
        rcases r1 with ⟨-, q⟩ | ⟨q, -⟩ | ⟨q, -⟩ | ⟨q, -⟩
        · exact q
        · omega
        · omega
        · omega
      obtain ⟨x1, x2, x3, x4, x5⟩ := r5'
      have q37 : zI ρ3 0 37 = 0 ∨ zI ρ3 0 37 = 2 := by
        rcases r3 with ⟨-, q, -⟩ | ⟨q, -⟩ | ⟨-, q, -⟩ | ⟨q, -⟩
        · exact Or.inl q
        · omega
        · exact Or.inr q.1
        · omega
      have f101 : wpX11_reckon_101 n (zI ρ1 0 38) ρ3 Qr := by
        unfold wpX11_reckon_101
        have b3' : RBd υ (yS υ) ρ3 (M (zI υ 14 4)) (nm (zI υ 6 3) ++ []) := by
          rw [x5] at b3
          rw [List.append_nil]; exact b3
        refine r_octD b3' e33 (by omega) (by omega) (fun ρ5 b5 e5 => ?_)
        have j6 := e5.s6
        have j31 := e5.2.2.2.2
        refine r_emitForm (g := 6) b5 (e5.or r3) ui.1 (by omega) z6 (e5.ops u3) (e5.s33 e33) (by omega) (fun ρ6 b6 e6 => ?_)
        have i6 := e6.s6
        have i31 := e6.2.2.2.2
        refine k ρ6 ?_ s3 (e5.2.1.tr e6.2.1) (i6.trans j6) (by omega) (fun f hf => (e6.2.2.1.1 f (hit f hf)).trans (e5.2.2.1.1 f (hit f hf))) ((e6.2.2.1.2 1 (by decide)).trans (e5.2.2.1.2 1 (by decide)))
        rw [wy, show (8 * n + 3) % 256 = 8 * n + 3 by omega, ob_I u5 1, ← x2]
        exact b6
      exact ⟨fun q => absurd x1 q, fun _ => ⟨by omega, fun _ => f101, fun _ => ⟨fun q => by omega, fun _ => f101⟩⟩⟩
    · -- a value
      refine x_addWithM (by decide) ug.1 uo u5i (by omega) (fun ω wp wk wz wz' wy => ?_)
      have w6 : ob ω 6 = ob υ 6 := wk 6 (by decide)
      refine x_addValue (by decide) wp ((wk.I (by decide) 5).trans uo) (ui.k (wk 11 (by decide)) w6) (by split at wz' <;> omega) (fun ω2 wp2 wk2 wz2 wy2 => fin ω2 wp2 (wk.tr wk2) (by split at wz' <;> omega) (fun q => by rw [if_pos q] at wz'; omega) (fun ρ1 ρ3 Qr g1 r1 u1 p13 r3 u3 e33 e31 b3 k l37 s3 => ?_))
      have q37 : 3 ≤ zI ρ3 0 37 ∧ zI ρ3 0 37 ≤ 5 := by
        rcases r3 with ⟨q, -⟩ | ⟨q, -⟩ | ⟨q, -⟩ | ⟨-, ⟨-, q, -⟩ | ⟨-, -, -, ⟨-, q⟩ | ⟨-, q⟩⟩⟩
        · omega
        · omega
        · omega
        · omega
        · omega
        · omega
      have l38 := b3.1.2.1.2.2.2.2.2.2.2.2.2.2.2.2.2.2.1
      have l39 := b3.1.2.1.2.2.2.2.2.2.2.2.2.2.2.2.2.2.2.1
      have f118 : wpX11_reckon_118 n (zI ρ1 0 37) (zI ρ1 0 38) (zI ρ1 0 39) (zI ρ1 0 41) (zI ρ1 0 42) (zI ρ3 0 37) (zI ρ3 0 38) (zI ρ3 0 39) ρ3 Qr := by
        unfold wpX11_reckon_118 wpX11_reckon_164 wpX11_reckon_179 wpX11_reckon_210
        refine ⟨by omega, fun _ => ?_, fun q => by omega⟩
        refine b118 ρ1 ρ3 Qr 129 n _ _ g1 r1 u1 p13 e33 e31 b3 (by decide) hn (fun ρ5 w => ⟨by omega, fun _ => w, fun q => by omega⟩) (fun ρ6 b6 e6 => ⟨by omega, fun q => by omega, fun _ => ?_⟩)
        have j6 : zI ρ6 0 6 = zI ρ3 0 6 := e6.s6
        have j31 : zI ρ6 0 31 ≤ zI ρ3 0 31 + 3 := e6.2.2.2.2
        have b7 : RBd υ (yMt (yP (yS υ) 0 129 0) υ 5 n) (zsI (zsI (zsI ρ6 0 37 (zI ρ3 0 37)) 0 38 (zI ρ3 0 38)) 0 39 (zI ρ3 0 39)) (M (zI υ 14 4)) (nm (zI υ 6 3) ++ []) := by
          rw [List.append_nil]
          exact ⟨GG_39 (GG_38 (GG_37 b6.1 (by omega)) l38) l39, b6.2⟩
        have r7 : OR υ 6 (zsI (zsI (zsI ρ6 0 37 (zI ρ3 0 37)) 0 38 (zI ρ3 0 38)) 0 39 (zI ρ3 0 39)) := by
          rcases r3 with ⟨q, -⟩ | ⟨q, -⟩ | ⟨q, -⟩ | q
          · omega
          · omega
          · omega
          · exact Or.inr (Or.inr (Or.inr q))
        have p67 : PR ρ6 (zsI (zsI (zsI ρ6 0 37 (zI ρ3 0 37)) 0 38 (zI ρ3 0 38)) 0 39 (zI ρ3 0 39)) := (PR_op (by decide)).tr ((PR_op (by decide)).tr (PR_op (by decide)))
        refine r_emitValD (g := 6) b7 y4 r7 (u3.pr (PR_ops.tr (e6.2.1.tr p67)) rfl rfl) (e6.s33 e33) (show zI ρ6 0 31 + 1 ≤ 2 * zI ρ6 0 6 + 8 by omega) (fun ρ8 b8 e8 => k ρ8 ?_ s3 (PR_ops.tr (e6.2.1.tr (p67.tr e8.2.1))) (e8.s6.trans e6.s6) ?_ (fun f hf => ?_) ?_)
        · rw [wy2, wy, ob_I w6 2, ob_I w6 3, ob_I w6 5, show (129 : Int) % 256 = 129 from rfl]
          exact b8
        · have : zI ρ8 0 31 ≤ zI ρ6 0 31 + 1 := e8.2.2.2.2
          omega
        · have e1 := e8.2.2.1.1 f (hit f hf)
          have e2 := e6.2.2.1.1 f (hit f hf)
          rcases hf with rfl | rfl | rfl | rfl | rfl | rfl | rfl | rfl <;> exact e1.trans e2
        · exact (e8.2.2.1.2 1 (by decide)).trans (e6.2.2.1.2 1 (by decide))
      exact ⟨fun _ => f118, fun _ => ⟨by omega, fun q => by omega, fun _ => ⟨fun _ => f118, fun q => by omega⟩⟩⟩
  rw [show zI (zsI τ 14 4 (zI τ 14 4 + 1)) 5 0 = zI τ 5 0 from ob_I q5 0]
  refine ⟨by omega, fun y => f40 5 17 (by unfold AB; decide) (by omega) (by decide) (by decide) (fun _ => by decide), fun y => f40 (zor 5 2) 25 (by unfold AB; decide) (by omega) (by decide) (by decide) (fun q => by omega)⟩
/-! X: mov on both sides -/
theorem r_octS {σ ρ : ZS} {d : YD} {m b : Int} {pend : List Int} {Q : ZS → Prop} (hB : RBd σ d ρ m pend) (hs : zI ρ 0 33 = 1) (hp : zI ρ 0 31 + 1 ≤ 2 * zI ρ 0 6 + 8) (hb : -20000000 ≤ b ∧ b ≤ 20000000) (hQ : ∀ ρ' : ZS, RBd σ (yP d 0 b 0) ρ' m pend → Em 1 ρ ρ' → zI ρ' 0 31 = zI ρ 0 31 + 1 → Q ρ') : wpX11_octet b ρ Q :=
  x_octet hB.1 hs hp hb (fun ρ' e x => hQ ρ' (hB.piece e x) e x.1)
/-- fields that emission leaves alone -/
def KpF (ρ ρ' : ZS) : Prop := (∀ f : Nat, f = 2 ∨ f = 5 ∨ f = 7 ∨ f = 8 ∨ f = 9 ∨ f = 10 ∨ f = 17 ∨ f = 23 → zI ρ' 0 f = zI ρ 0 f) ∧ zA ρ' 0 1 = zA ρ 0 1 ∧ zI ρ' 0 6 = zI ρ 0 6
theorem KpF.tr {a b c : ZS} (h : KpF a b) (k : KpF b c) : KpF a c := ⟨fun f hf => (k.1 f hf).trans (h.1 f hf), k.2.1.trans h.2.1, k.2.2.trans h.2.2⟩
theorem Em.kf {k : Int} {ρ ρ' : ZS} (e : Em k ρ ρ') : KpF ρ ρ' := ⟨fun f hf => e.2.2.1.1 f (fun q => by have := List.mem_singleton.mp q; omega), e.2.2.1.2 1 (by decide), e.s6⟩
theorem KpF.sy {h : Int → Int} {L i : Int} {E : Int → Int} {σ ρ ρ' : ZS} (k : KpF ρ ρ') (s : SY h L E σ i ρ) : SY h L E σ i ρ' := by
  obtain ⟨a1, a2, a3, a4, a5⟩ := s
  exact ⟨(k.1 2 (by omega)).trans a1, fun j j0 j1 => by rw [k.2.1]; exact a2 j j0 j1, (k.1 5 (by omega)).trans a3, k.2.2.trans a4, a5.k (k.1 7 (by omega)) (k.1 8 (by omega)) (k.1 9 (by omega)) (k.1 10 (by omega))⟩
theorem KpF.fresh {ρ ρ' : ZS} (k : KpF ρ ρ') (f : Fresh ρ) : Fresh ρ' := by
  intro q
  rw [k.1 7 (by omega)] at q
  rw [k.1 17 (by omega), k.2.2, k.1 23 (by omega)]
  exact f q
theorem KpF.op {ρ : ZS} {f : Nat} {v : Int} (hf : f = 37 ∨ f = 38 ∨ f = 39 ∨ f = 40 ∨ f = 41 ∨ f = 42) : KpF ρ (zsI ρ 0 f v) := by
  refine ⟨fun g hg => zI_f (by omega), rfl, zI_f (by omega)⟩
/-- a second operand stands: what the class writes then, what the reference does then (C) -/
def EmC (h : Int → Int) (L : Int) (E M : Int → Int) (τ υ ω : ZS) (C : ZS → ZS → (Int → ZS → Prop) → Prop) : Prop := ∀ (ρ1 ρ3 : ZS) (Qr : Int → ZS → Prop), GG ρ1 → OR τ 5 ρ1 → OpU ρ1 → PR ρ1 ρ3 → zI ρ3 0 31 = zI ρ1 0 31 → OR υ 6 ρ3 → OpU ρ3 → zI ρ3 0 33 = 1 → zI ρ3 0 31 + 4 ≤ 2 * zI ρ3 0 6 → RBd υ (yS υ) ρ3 (M (zI υ 14 4)) (nm (zI τ 5 3) ++ nm (zI υ 6 3)) → (∀ ρ' : ZS, RBd υ (yS ω) ρ' (M (zI υ 14 4)) [] → PR ρ3 ρ' → zI ρ' 0 31 ≤ zI ρ3 0 31 + 4 → KpF ρ3 ρ' → Qr 1 ρ') → C ρ1 ρ3 Qr
/-! X: a name behind a word, on both sides -/
theorem x_named {t v : Int} {σ : ZS} {Q : Int → ZS → Prop} (h : PS σ) (hat1 : t = 10 → 1 ≤ zI σ 14 4) (ht : (1 ≤ t ∧ t ≤ 3) ∨ (9 ≤ t ∧ t ≤ 12)) (hv : 0 ≤ v ∧ v ≤ 65536) (h9 : (t = 9 → v = 2) ∧ (t = 12 → v = 0)) (ho : t = 2 ∨ t = 3 ∨ zI σ 14 5 = 1) (hz : zI σ 13 7 < 248) (h1 : zA σ 12 0 (zI σ 14 4) = 3 → ∀ τ : ZS, PG σ τ → zI τ 14 4 = zI σ 14 4 + 1 → zI τ 13 7 = zI σ 13 7 + 1 → ob τ 11 = ob σ 11 → ob τ 12 = ob σ 12 → yS τ = yI (yS σ) t v (zA σ 12 1 (zI σ 14 4)) → Q 1 τ) (h0 : zA σ 12 0 (zI σ 14 4) ≠ 3 → Q 0 σ) : wpX8_named t v σ Q := by
  have hat := h.at
  have hat2 := h.2.2.1
  unfold wpX8_named
  refine c_take h (by decide) (fun e p => ⟨by decide, fun _ => ?_, fun q => absurd q (by decide)⟩) (fun ne => ⟨by decide, fun q => absurd rfl q, fun _ => h0 ne⟩)
  have tk := h.tk
  obtain ⟨t1, t2, t3, t4⟩ := tk
  have t4' := t4 e
  have up : PG σ (zsI σ 14 4 (zI σ 14 4 + 1)) := (PG.rf h).on (by omega)
  have f34 : ∀ w : Int, (-1 ≤ w ∧ w ≤ 480) → (t = 10 → 0 ≤ w) → wpX8_named_34 t v (zI σ 14 4) w (zsI σ 14 4 (zI σ 14 4 + 1)) Q := by
    intro w hw hw0
    unfold wpX8_named_34
    refine ⟨hat, x_add p ⟨by omega, hv, ⟨?_, ?_⟩, ?_, hw, fun _ _ _ => ?_, fun _ => ?_, fun q => absurd q (by omega), fun q => ?_, fun _ => ⟨fun q => absurd q (by omega), hw0, h9.2⟩⟩ ?_ hz (fun τ tp tk _ ts ty => h1 e τ (up.ad tp tk) (tk.I (by decide) 4) ts ((tk 11 (by decide)).trans (ob_i (by decide))) ((tk 12 (by decide)).trans (ob_i (by decide))) ty)⟩
    · show -1 ≤ zA σ 12 1 (zI σ 14 4)
      omega
    · exact t4'
    · show -1 ≤ zA σ 12 2 (zI σ 14 4) ∧ zA σ 12 2 (zI σ 14 4) ≤ 480
      omega
    · exact t2.1
    · exact t3.1
    · have := h9.1 q; omega
    · exact Or.inr ho
  refine ⟨by omega, fun q => f34 (-1) (by decide) (fun e10 => by have := hat1 e10; omega), fun q => ?_⟩
  have pl := (h.1.2 (zI σ 14 4 - 1) (by omega) (by omega)).2.2.1
  refine ⟨by omega, f34 _ ?_ (fun _ => ?_)⟩
  · show -1 ≤ zA σ 12 2 (zI σ 14 4 - 1) ∧ zA σ 12 2 (zI σ 14 4 - 1) ≤ 480
    omega
  · show 0 ≤ zA σ 12 2 (zI σ 14 4 - 1)
    omega
/-- a use, its item with it -/
theorem r_useD {h : Int → Int} {L i m a n p : Int} {E : Int → Int} {σ ρ : ZS} {d : YD} {Q : ZS → Prop} (hS : SY h L E σ i ρ) (hB : RBd σ d ρ m []) (ha : 1 ≤ a ∧ a ≤ 4) (hn : 0 ≤ n ∧ n < 240 ∧ n < zI ρ 0 17) (hp : 0 ≤ p ∧ p ≤ 480) (hu : zI ρ 0 23 + 1 ≤ zI ρ 0 5 ∧ zI ρ 0 23 < 480) (hQ : ∀ τ : ZS, SY h L E σ i τ → RBd σ (yU d a n) τ m [] → fr [23] [19, 20, 21, 22] ρ τ → PR ρ τ → (a = 4 → hasUse τ n) → Q τ) : wpX11_use a n p ρ Q := by
  obtain ⟨hG, b1, b3, b4⟩ := hB
  refine x_use hG (by omega) hn hp hu (fun q => by omega) (fun τ g pr f hs hx => ?_)
  refine hQ τ (hS.fr f (by decide) (by decide) (by decide) (by decide) (by decide) (by decide) (by decide) (by decide)) ⟨g, ?_, ?_, fun q => ?_⟩ f pr (fun q => hs (Or.inr q))
  · rw [f.1 17 (by decide), f.2 12 (by decide)]; exact b1
  · rw [f.1 33 (by decide)]; exact b3
  · obtain ⟨c1, c2, c3⟩ := b4 q
    exact ⟨(c1.k (f.2 13 (by decide)) (f.2 14 (by decide)) (f.2 15 (by decide)) (f.2 35 (by decide)) (f.1 34 (by decide)) (f.1 32 (by decide)) (f.1 18 (by decide)) : YN τ m d), (c2.k (f.1 31 (by decide)) (f.2 24 (by decide)) (f.2 25 (by decide)) (f.2 26 (by decide)) (f.2 28 (by decide)) : YP τ d), c3.add (by have := hG.2.1.2.2.2.2.2.2.2.1; omega) hx c1.2.2.2.2.1⟩
theorem RBd.fr {σ ρ τ : ZS} {d : YD} {m : Int} {pend : List Int} (k : RBd σ d ρ m pend) (hG : GG τ) (f : fr [5, 6, 7, 8, 9, 10] [] ρ τ) : RBd σ d τ m pend := by
  obtain ⟨a, b, c, e⟩ := k
  have A : ∀ x : Nat, zA τ 0 x = zA ρ 0 x := fun x => f.2 x (by simp)
  refine ⟨hG, ⟨(f.1 17 (by decide)).trans b.1, fun n n0 n1 => by rw [A]; exact b.2 n n0 n1⟩, (f.1 33 (by decide)).trans c, fun q => ?_⟩
  obtain ⟨d1, d2, d3⟩ := e q
  exact ⟨d1.k (A _) (A _) (A _) (A _) (f.1 34 (by decide)) (f.1 32 (by decide)) (f.1 18 (by decide)), d2.k (f.1 31 (by decide)) (A _) (A _) (A _) (A _), d3.k (f.1 23 (by decide)) (A _) (A _) (A _)⟩
