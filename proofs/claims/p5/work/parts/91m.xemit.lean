/-! X: what becomes bytes, on both sides -/
theorem RB.piece {σ τ ρ ρ' : ZS} {m k a b : Int} {pend : List Int} (hB : RB σ ρ m pend) (hk : kp [13] σ τ) (hy : yS τ = yP (yS σ) k a b) (he : Em 1 ρ ρ') (hx : xP ρ ρ' k a b) : RB τ ρ' m pend := by
  obtain ⟨b0, b1, b3, b4⟩ := hB
  obtain ⟨e1, e2, e3, e4, e5⟩ := he
  refine ⟨e1, ?_, ?_, fun q => ?_⟩
  · rw [e3.1 17 (by decide), e3.2 12 (by decide), hk.A (by decide) 0]; exact b1
  · rw [e3.1 33 (by decide), hk.I (by decide) 5]; exact b3
  · rw [hk.I (by decide) 5] at q
    obtain ⟨c1, c2, c3⟩ := b4 q
    rw [hy]
    refine ⟨?_, ?_, ?_⟩
    · exact (c1.k (e3.2 13 (by decide)) (e3.2 14 (by decide)) (e3.2 15 (by decide)) (e3.2 35 (by decide)) (e3.1 34 (by decide)) (e3.1 32 (by decide)) (e3.1 18 (by decide)) : YN ρ' m (yS σ))
    · exact c2.add (b0.2.1.2.2.2.2.2.2.2.2.1).1 hx c1.2.2.2.2.1
    · exact (c3.k (e3.1 23 (by decide)) (e3.2 19 (by decide)) (e3.2 20 (by decide)) (e3.2 22 (by decide)) : YU ρ' (pU (yS σ) pend))
theorem RB.pieceN {σ τ ρ ρ' : ZS} {m k n b : Int} {pend : List Int} (hB : RB σ ρ m (n :: pend)) (hk : kp [13] σ τ) (hy : yS τ = yP (yU (yS σ) 1 n) k n b) (he : Em 1 ρ ρ') (hx : xP ρ ρ' k n b) : RB τ ρ' m pend := by
  obtain ⟨b0, b1, b3, b4⟩ := hB
  obtain ⟨e1, e2, e3, e4, e5⟩ := he
  refine ⟨e1, ?_, ?_, fun q => ?_⟩
  · rw [e3.1 17 (by decide), e3.2 12 (by decide), hk.A (by decide) 0]; exact b1
  · rw [e3.1 33 (by decide), hk.I (by decide) 5]; exact b3
  · rw [hk.I (by decide) 5] at q
    obtain ⟨c1, c2, c3⟩ := b4 q
    rw [hy]
    refine ⟨?_, ?_, ?_⟩
    · exact (c1.k (e3.2 13 (by decide)) (e3.2 14 (by decide)) (e3.2 15 (by decide)) (e3.2 35 (by decide)) (e3.1 34 (by decide)) (e3.1 32 (by decide)) (e3.1 18 (by decide)) : YN ρ' m (yS σ))
    · exact (show YP ρ (yU (yS σ) 1 n) from c2).add (b0.2.1.2.2.2.2.2.2.2.2.1).1 hx c1.2.2.2.2.1
    · exact (c3.k (e3.1 23 (by decide)) (e3.2 19 (by decide)) (e3.2 20 (by decide)) (e3.2 22 (by decide)) : YU ρ' (pU (yS σ) (n :: pend)))
/-- the class's byte -/
theorem x_addByte {σ : ZS} {b : Int} {Q : ZS → Prop} (h : PS σ) (ho : zI σ 14 5 = 1) (hs : zI σ 13 7 < 248) (hQ : ∀ τ : ZS, PS τ → kp [13] σ τ → zI τ 13 7 = zI σ 13 7 + 1 → yS τ = yP (yS σ) 0 (b % 256) 0 → Q τ) : wpX0_addByte b σ Q := by
  have hN := h.2.2.2.2.2.2
  unfold wpX0_addByte
  exact x_add h ⟨by decide, by omega, by omega, by decide, by decide, fun q => absurd rfl q, fun q => absurd q (by decide), fun q => absurd q (by decide), fun q => absurd q (by decide), fun q => absurd q (by decide)⟩ (Or.inr (Or.inr (Or.inr ho))) hs (fun τ a b _ d e => hQ τ a b d e)
theorem r_oct {σ τ ρ : ZS} {m b : Int} {pend : List Int} {Q : ZS → Prop} (hB : RB σ ρ m pend) (hk : kp [13] σ τ) (hy : yS τ = yP (yS σ) 0 b 0) (hs : zI ρ 0 33 = 1) (hp : zI ρ 0 31 + 1 ≤ 2 * zI ρ 0 6 + 8) (hb : -20000000 ≤ b ∧ b ≤ 20000000) (hQ : ∀ ρ' : ZS, RB τ ρ' m pend → Em 1 ρ ρ' → Q ρ') : wpX11_octet b ρ Q :=
  x_octet hB.1 hs hp hb (fun ρ' e x => hQ ρ' (hB.piece hk hy e x) e)
/-- the value that a class's operand g is, as an item -/
def yV (d : YD) (n v p : Int) : YD := if 0 ≤ n then (if p = 0 then yP (yU d 1 n) 2 n v else yP (yU d 1 n) 3 n 0) else yP d 1 v 0
theorem x_addValue {g : Int} {σ : ZS} {Q : ZS → Prop} (hg : 5 ≤ g ∧ g ≤ 6) (h : PS σ) (ho : zI σ 14 5 = 1) (hi : OPI σ g) (hs : zI σ 13 7 < 248) (hQ : ∀ τ : ZS, PS τ → kp [13] σ τ → zI τ 13 7 = zI σ 13 7 + 1 → yS τ = yV (yS σ) (zI σ g 3) (zI σ g 2) (zI σ g 5) → Q τ) : wpX0_addValue g σ Q := by
  have hN := h.2.2.2.2.2.2
  obtain ⟨⟨a1, a2, a3, a4, a5, a6, a7⟩, b⟩ := hi
  unfold wpX0_addValue wpX0_addValue_38 wpX0_addValue_54
  have f : ∀ t : Int, (t = 7 ∧ zI σ g 5 = 0) ∨ (t = 8 ∧ ¬ zI σ g 5 = 0) → 0 ≤ zI σ g 3 → (5 ≤ g ∧ g ≤ 6) ∧ wpX0_add t (zI σ g 2) (zI σ g 3) (zI σ g 4) (-1) σ (fun σ3 => Q σ3) := by
    intro t ht n0
    refine ⟨hg, x_add h ⟨by omega, by omega, by omega, by omega, by decide, fun _ _ _ => n0, fun _ => a3 n0, fun q => by omega, fun q => by omega, fun q => by omega⟩ (Or.inr (Or.inr (Or.inr ho))) hs (fun τ p1 p2 _ p4 p5 => hQ τ p1 p2 p4 ?_)⟩
    rw [p5]
    unfold yV
    rw [if_pos n0]
    rcases ht with ⟨t7, z⟩ | ⟨t8, z⟩
    · rw [if_pos z, t7]; rfl
    · rw [if_neg z, t8]; rfl
  refine ⟨hg, by omega, fun n0 => ⟨by omega, fun z => f 7 (Or.inl ⟨rfl, z⟩) n0, fun z => f 8 (Or.inr ⟨rfl, z⟩) n0⟩, fun n0 => ?_⟩
  refine x_add h ⟨by decide, by omega, by omega, by decide, by decide, fun _ _ q => absurd rfl q, fun q => absurd q (by decide), fun q => absurd q (by decide), fun q => absurd q (by decide), fun q => absurd q (by decide)⟩ (Or.inr (Or.inr (Or.inr ho))) hs (fun τ p1 p2 _ p4 p5 => hQ τ p1 p2 p4 ?_)
  rw [p5]
  unfold yV
  rw [if_neg n0]
  rfl
/-- the reference's value -/
theorem r_emitValue {g : Int} {σ τ ρ : ZS} {m : Int} {pend : List Int} {Q : ZS → Prop} (hB : RB σ ρ m (nm (zI σ g 3) ++ pend)) (hk : kp [13] σ τ) (hy : yS τ = yV (yS σ) (zI σ g 3) (zI σ g 2) (zI σ g 5)) (h4 : zI σ g 0 = 4) (hO : OR σ g ρ) (hU : OpU ρ) (hs : zI ρ 0 33 = 1) (hp : zI ρ 0 31 + 1 ≤ 2 * zI ρ 0 6 + 8) (hQ : ∀ ρ' : ZS, RB τ ρ' m pend → Em 1 ρ ρ' → Q ρ') : wpX11_emitValue ρ Q := by
  have gg := hB.1
  have l37 := gg.2.1.2.2.2.2.2.2.2.2.2.2.2.2.2.1
  have l38 := gg.2.1.2.2.2.2.2.2.2.2.2.2.2.2.2.2.1
  have l39 := gg.2.1.2.2.2.2.2.2.2.2.2.2.2.2.2.2.2.1
  have ho : (zI σ g 3 = -1 ∧ zI ρ 0 37 = 3 ∧ zI ρ 0 38 = zI σ g 2) ∨ (0 ≤ zI σ g 3 ∧ zI σ g 2 = 0 ∧ zI ρ 0 39 = zI σ g 3 ∧ ((zI σ g 5 = 0 ∧ zI ρ 0 37 = 4) ∨ (zI σ g 5 = 1 ∧ zI ρ 0 37 = 5))) := by
    rcases hO with ⟨q, -⟩ | ⟨q, -⟩ | ⟨q, -⟩ | ⟨-, q⟩
    · omega
    · omega
    · omega
    · exact q
  unfold wpX11_emitValue wpX11_emitValue_36 wpX11_emitValue_45
  rcases ho with ⟨o1, o2, o3⟩ | ⟨o1, o2, o3, o4⟩
  · have n0 : nm (zI σ g 3) = [] := by rw [o1]; rfl
    rw [n0, List.nil_append] at hB
    refine ⟨by omega, fun q => absurd o2 q, fun _ => x_piece gg hs hp (by decide) (fun q => absurd q (by decide)) (fun q => absurd q (by decide)) (by omega) (by decide) (by decide) (fun q => by omega) (fun ρ' e x => hQ ρ' (hB.piece hk ?_ e x) e)⟩
    rw [hy, o1, o3]; rfl
  · have n0 : nm (zI σ g 3) = [zI σ g 3] := if_pos o1
    rw [n0] at hB
    have hu := hU.2 (by omega)
    refine ⟨by omega, fun n3 => ⟨fun n4 => ?_, fun y4 => ?_⟩, fun q => by omega⟩
    · refine x_piece gg hs hp (by decide) (fun _ _ => by omega) (fun q => absurd q (by decide)) (by omega) (by decide) (by decide) (fun _ => hu.2) (fun ρ' e x => hQ ρ' ?_ e)
      rw [o3] at x
      refine RB.pieceN hB hk ?_ e x
      rw [hy]; unfold yV; rw [if_pos o1, if_neg (by omega)]
    · refine x_piece gg hs hp (by decide) (fun _ _ => by omega) (fun q => absurd q (by decide)) (by omega) (by decide) (by decide) (fun _ => hu.2) (fun ρ' e x => hQ ρ' ?_ e)
      rw [o3] at x
      refine RB.pieceN hB hk ?_ e x
      rw [hy]; unfold yV; rw [if_pos o1, if_pos (by omega), o2]
/-- the b of memory -/
def mdv (b i : Int) : Int := if b = 0 then (if i = 0 then 6 else i - 2) else (if i = 0 then (if b = 3 then 7 else 6) else ((if b = 3 then 0 else 2) + i) - 6)
/-- a number with a sign -/
def sgn (n : Int) : Int := (n + 32768) % 65536 - 32768
/-- how many bytes of displacement follow -/
def dsz (b i n v : Int) : Int := if (b = 0 ∧ i = 0) ∨ 0 ≤ n then 2 else if sgn v = 0 ∧ mdv b i ≠ 6 then 0 else if -128 ≤ sgn v ∧ sgn v ≤ 127 then 1 else 2
theorem x_isBare {g : Int} {σ : ZS} {Q : Int → ZS → Prop} (hg : 5 ≤ g ∧ g ≤ 6) (hi : OPB σ g) (h1 : zI σ g 6 = 0 ∧ zI σ g 7 = 0 → Q 1 σ) (h0 : ¬ (zI σ g 6 = 0 ∧ zI σ g 7 = 0) → Q 0 σ) : wpX7_isBare g σ Q := by
  obtain ⟨a1, a2, a3, a4, a5, a6, a7⟩ := hi
  unfold wpX7_isBare wpX7_isBare_18 wpX7_isBare_19
  exact ⟨hg, by omega, fun q => ⟨by decide, h0 (fun z => q z.1)⟩, fun q => ⟨by omega, fun w => ⟨by decide, h0 (fun z => w z.2)⟩, fun w => ⟨by decide, h1 ⟨q, w⟩⟩⟩⟩
theorem x_mode {g : Int} {σ : ZS} {Q : Int → ZS → Prop} (hg : 5 ≤ g ∧ g ≤ 6) (hi : OPB σ g) (hQ : Q (mdv (zI σ g 6) (zI σ g 7)) σ) : wpX7_mode g σ Q := by
  obtain ⟨a1, a2, a3, a4, a5, a6, a7⟩ := hi
  unfold wpX7_mode wpX7_mode_62 wpX7_mode_48 wpX7_mode_25
  unfold mdv at hQ
  refine ⟨hg, by omega, fun q => ⟨by omega, fun w => ⟨fun z => ⟨hg, ?_⟩, fun z => ⟨hg, ?_⟩⟩, fun w => ⟨fun z => ?_, fun z => ?_⟩⟩, fun q => ⟨by omega, fun w => ?_, fun w => ?_⟩⟩
  · rw [if_neg q, if_neg w, if_neg z] at hQ; exact hQ
  · rw [if_neg q, if_neg w, if_pos z] at hQ; exact hQ
  · rw [if_neg q, if_pos w, if_neg z] at hQ; exact hQ
  · rw [if_neg q, if_pos w, if_pos z] at hQ; exact hQ
  · rw [if_pos q, if_neg w] at hQ; exact hQ
  · rw [if_pos q, if_pos w] at hQ; exact hQ
theorem mdv_bd {b i : Int} (hb : b = 0 ∨ b = 3 ∨ b = 5) (hi : i = 0 ∨ i = 6 ∨ i = 7) : 0 ≤ mdv b i ∧ mdv b i ≤ 7 := by
  unfold mdv
  rcases hb with rfl | rfl | rfl <;> rcases hi with rfl | rfl | rfl <;> decide
theorem r_bits {ρ : ZS} {b i : Int} {Q : Int → ZS → Prop} (hG : GG ρ) (hb : b = 0 ∨ b = 3 ∨ b = 5) (hi : i = 0 ∨ i = 6 ∨ i = 7) (rb : RGr b (zI ρ 0 41)) (ri : RGr i (zI ρ 0 42)) (hQ : Q (mdv b i) ρ) : wpX11_bits ρ Q := by
  unfold RGr at rb ri
  have l41 := hG.2.1.2.2.2.2.2.2.2.2.2.2.2.2.2.2.2.2.1
  have l42 := hG.2.1.2.2.2.2.2.2.2.2.2.2.2.2.2.2.2.2.2.1
  unfold wpX11_bits wpX11_bits_102 wpX11_bits_73 wpX11_bits_36
  rcases hb with rfl | rfl | rfl <;> rcases hi with rfl | rfl | rfl <;> exact ⟨by omega, fun q => ⟨fun w => ⟨by omega, fun z => ⟨fun y => by first | exact hQ | omega, fun y => by first | exact hQ | omega⟩, fun z => by first | exact hQ | omega⟩, fun w => ⟨by omega, fun z => ⟨fun y => by first | exact hQ | omega, fun y => by first | exact hQ | omega⟩, fun z => by first | exact hQ | omega⟩⟩, fun w => ⟨by omega, fun z => ⟨fun y => by first | exact hQ | omega, fun y => by first | exact hQ | omega⟩, fun z => by first | exact hQ | omega⟩⟩
theorem x_displacementSize {g : Int} {σ : ZS} {Q : Int → ZS → Prop} (hg : 5 ≤ g ∧ g ≤ 6) (hN : zI σ 11 5 ≤ 240) (hi : OPB σ g) (hQ : Q (dsz (zI σ g 6) (zI σ g 7) (zI σ g 3) (zI σ g 2)) σ) : wpX7_displacementSize g σ Q := by
  have hi0 := hi
  obtain ⟨a1, a2, a3, a4, a5, a6, a7⟩ := hi
  have hm := mdv_bd a6 a7
  have f36 : ¬ (zI σ g 6 = 0 ∧ zI σ g 7 = 0) → ¬ 0 ≤ zI σ g 3 → ¬ (sgn (zI σ g 2) = 0 ∧ mdv (zI σ g 6) (zI σ g 7) ≠ 6) → wpX7_displacementSize_36 (sgn (zI σ g 2)) σ Q := by
    intro n1 n2 n3
    unfold wpX7_displacementSize_36 wpX7_displacementSize_48
    unfold dsz at hQ
    rw [if_neg (fun q => q.elim n1 n2), if_neg n3] at hQ
    refine c_isShort (by unfold sgn; omega) (fun p q => ⟨by decide, fun q => absurd q (by decide), fun _ => ?_⟩) (fun p => ⟨by decide, fun _ => ?_, fun q => absurd rfl q⟩)
    · rw [if_pos ⟨p, q⟩] at hQ; exact hQ
    · rw [if_neg p] at hQ; exact hQ
  unfold wpX7_displacementSize wpX7_displacementSize_14 wpX7_signedNumber
  refine ⟨hg, x_isBare hg hi0 (fun b => ⟨by decide, fun _ => ?_, fun q => absurd q (by decide)⟩) (fun nb => ⟨by decide, fun q => absurd rfl q, fun _ => ⟨by omega, fun n => ⟨hg, ?_⟩, fun n => ?_⟩⟩)⟩
  · unfold dsz at hQ; rw [if_pos (Or.inl b)] at hQ; exact hQ
  · show (-2147483648 ≤ sgn (zI σ g 2) ∧ sgn (zI σ g 2) ≤ 2147483647) ∧ (¬ sgn (zI σ g 2) = 0 → wpX7_displacementSize_36 (sgn (zI σ g 2)) σ Q) ∧ (sgn (zI σ g 2) = 0 → _)
    refine ⟨by unfold sgn; omega, fun z => f36 nb (by omega) (fun q => z q.1), fun z => x_mode hg hi0 ⟨by omega, fun m6 => f36 nb (by omega) (fun q => q.2 m6), fun m6 => ?_⟩⟩
    unfold dsz at hQ
    rw [if_neg (fun q => q.elim nb (by omega)), if_pos ⟨z, m6⟩] at hQ
    exact hQ
  · unfold dsz at hQ; rw [if_pos (Or.inr (by omega))] at hQ; exact hQ
