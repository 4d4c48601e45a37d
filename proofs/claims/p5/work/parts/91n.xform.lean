/-! X: forms on both sides -/
/-- RB, with the walk d named -/
def RBd (σ : ZS) (d : YD) (ρ : ZS) (m : Int) (pend : List Int) : Prop := GG ρ ∧ (zI ρ 0 17 = m ∧ ∀ n : Int, 0 ≤ n → n < m → RW (zA ρ 0 12 n) (zA σ 11 0 n)) ∧ zI ρ 0 33 = zI σ 14 5 ∧ (zI σ 11 5 ≤ 24 → YN ρ m d ∧ YP ρ d ∧ YU ρ (pU d pend))
theorem RB.d {σ ρ : ZS} {m : Int} {pend : List Int} (h : RB σ ρ m pend) : RBd σ (yS σ) ρ m pend := h
theorem RBd.b {σ τ ρ : ZS} {d : YD} {m : Int} {pend : List Int} (h : RBd σ d ρ m pend) (e11 : ob τ 11 = ob σ 11) (e5 : zI τ 14 5 = zI σ 14 5) (hy : yS τ = d) : RB τ ρ m pend := by
  unfold RB; rw [ob_I e11 5, ob_A e11 0, hy, e5]; exact h
/-- what only moves the reference's pieces -/
theorem RBd.piece {σ ρ ρ' : ZS} {d : YD} {m k a b : Int} {pend : List Int} (hB : RBd σ d ρ m pend) (he : Em 1 ρ ρ') (hx : xP ρ ρ' k a b) : RBd σ (yP d k a b) ρ' m pend := by
  obtain ⟨b0, b1, b3, b4⟩ := hB
  obtain ⟨e1, e2, e3, e4, e5⟩ := he
  refine ⟨e1, ?_, ?_, fun q => ?_⟩
  · rw [e3.1 17 (by decide), e3.2 12 (by decide)]; exact b1
  · rw [e3.1 33 (by decide)]; exact b3
  · obtain ⟨c1, c2, c3⟩ := b4 q
    exact ⟨(c1.k (e3.2 13 (by decide)) (e3.2 14 (by decide)) (e3.2 15 (by decide)) (e3.2 35 (by decide)) (e3.1 34 (by decide)) (e3.1 32 (by decide)) (e3.1 18 (by decide)) : YN ρ' m d), c2.add (b0.2.1.2.2.2.2.2.2.2.2.1).1 hx c1.2.2.2.2.1, (c3.k (e3.1 23 (by decide)) (e3.2 19 (by decide)) (e3.2 20 (by decide)) (e3.2 22 (by decide)) : YU ρ' (pU d pend))⟩
theorem RBd.use {σ ρ : ZS} {d : YD} {m n : Int} {pend : List Int} (hB : RBd σ d ρ m (n :: pend)) : RBd σ (yU d 1 n) ρ m pend := hB
theorem r_octD {σ ρ : ZS} {d : YD} {m b : Int} {pend : List Int} {Q : ZS → Prop} (hB : RBd σ d ρ m pend) (hs : zI ρ 0 33 = 1) (hp : zI ρ 0 31 + 1 ≤ 2 * zI ρ 0 6 + 8) (hb : -20000000 ≤ b ∧ b ≤ 20000000) (hQ : ∀ ρ' : ZS, RBd σ (yP d 0 b 0) ρ' m pend → Em 1 ρ ρ' → Q ρ') : wpX11_octet b ρ Q :=
  x_octet hB.1 hs hp hb (fun ρ' e x => hQ ρ' (hB.piece e x) e)
theorem OR.k {σ τ ρ ρ' : ZS} {g : Int} (h : OR σ g ρ) (e : ob τ g = ob σ g) (e37 : zI ρ' 0 37 = zI ρ 0 37) (e38 : zI ρ' 0 38 = zI ρ 0 38) (e39 : zI ρ' 0 39 = zI ρ 0 39) (e41 : zI ρ' 0 41 = zI ρ 0 41) (e42 : zI ρ' 0 42 = zI ρ 0 42) : OR τ g ρ' := by
  unfold OR MmR; rw [ob_I e 0, ob_I e 1, ob_I e 2, ob_I e 3, ob_I e 5, ob_I e 6, ob_I e 7, e37, e38, e39, e41, e42]; exact h
/-- a form behind its first byte -/
def yMt (d : YD) (σ : ZS) (g k : Int) : YD := if zI σ g 0 = 1 then yP d 0 (((192 + (8 * k)) + zI σ g 1) % 256) 0 else if dsz (zI σ g 6) (zI σ g 7) (zI σ g 3) (zI σ g 2) = 1 then yP (yP d 0 ((((64 * (if zI σ g 6 = 0 ∧ zI σ g 7 = 0 then 0 else dsz (zI σ g 6) (zI σ g 7) (zI σ g 3) (zI σ g 2))) + (8 * k)) + mdv (zI σ g 6) (zI σ g 7)) % 256) 0) 0 (zI σ g 2 % 256) 0 else if dsz (zI σ g 6) (zI σ g 7) (zI σ g 3) (zI σ g 2) = 2 then yV (yP d 0 ((((64 * (if zI σ g 6 = 0 ∧ zI σ g 7 = 0 then 0 else dsz (zI σ g 6) (zI σ g 7) (zI σ g 3) (zI σ g 2))) + (8 * k)) + mdv (zI σ g 6) (zI σ g 7)) % 256) 0) (zI σ g 3) (zI σ g 2) (zI σ g 5) else yP d 0 ((((64 * (if zI σ g 6 = 0 ∧ zI σ g 7 = 0 then 0 else dsz (zI σ g 6) (zI σ g 7) (zI σ g 3) (zI σ g 2))) + (8 * k)) + mdv (zI σ g 6) (zI σ g 7)) % 256) 0
theorem yMt.k {d : YD} {σ τ : ZS} {g k : Int} (e : ob τ g = ob σ g) : yMt d τ g k = yMt d σ g k := by
  unfold yMt; rw [ob_I e 0, ob_I e 1, ob_I e 2, ob_I e 3, ob_I e 5, ob_I e 6, ob_I e 7]
theorem x_addWithM {g a k : Int} {σ : ZS} {Q : ZS → Prop} (hg : 5 ≤ g ∧ g ≤ 6) (h : PS σ) (ho : zI σ 14 5 = 1) (hi : OPI σ g) (hs : zI σ 13 7 + 3 ≤ 248) (hQ : ∀ τ : ZS, PS τ → kp [13] σ τ → zI σ 13 7 ≤ zI τ 13 7 → zI τ 13 7 ≤ zI σ 13 7 + (if zI σ g 0 = 1 then 2 else 3) → yS τ = yMt (yP (yS σ) 0 (a % 256) 0) σ g k → Q τ) : wpX0_addWithM a g k σ Q := by
  have n13 := n_13 hg
  unfold wpX0_addWithM
  refine x_addByte h ho (by omega) (fun τ1 p1 k1 s1 y1 => ?_)
  have e1 := k1 g n13
  have o1 : zI τ1 14 5 = 1 := (k1.I (by decide) 5).trans ho
  have i1 : OPI τ1 g := hi.k (k1 11 (by decide)) e1
  have kd := i1.1.1
  refine ⟨hg, by omega, fun nk => ?_, fun yk => x_addByte p1 o1 (by omega) (fun τ2 p2 k2 s2 y2 => hQ τ2 p2 (k1.tr k2) (by omega) ?_ ?_)⟩
  rotate_left
  · rw [ob_I e1 0] at yk; rw [if_pos yk]; omega
  · rw [ob_I e1 0] at yk
    rw [y2, y1, ob_I e1 1]; unfold yMt; rw [if_pos yk]
  rw [ob_I e1 0] at nk
  refine x_displacementSize hg p1.2.2.2.2.2.2.2 i1.1 ?_
  rw [ob_I e1 6, ob_I e1 7, ob_I e1 3, ob_I e1 2]
  have f53 : ∀ s : Int, s = (if zI σ g 6 = 0 ∧ zI σ g 7 = 0 then 0 else dsz (zI σ g 6) (zI σ g 7) (zI σ g 3) (zI σ g 2)) → wpX0_addWithM_53 g k (dsz (zI σ g 6) (zI σ g 7) (zI σ g 3) (zI σ g 2)) s 64 τ1 Q := by
    intro s hs'
    unfold wpX0_addWithM_53 wpX0_addWithM_95
    refine ⟨hg, x_mode hg i1.1 (x_addByte p1 o1 (by omega) (fun τ2 p2 k2 s2 y2 => ?_))⟩
    rw [ob_I e1 6, ob_I e1 7, y1, hs'] at y2
    have e2 := k2 g n13
    have o2 : zI τ2 14 5 = 1 := (k2.I (by decide) 5).trans o1
    have i2 : OPI τ2 g := i1.k (k2 11 (by decide)) e2
    have zb : dsz (zI σ g 6) (zI σ g 7) (zI σ g 3) (zI σ g 2) = 0 ∨ dsz (zI σ g 6) (zI σ g 7) (zI σ g 3) (zI σ g 2) = 1 ∨ dsz (zI σ g 6) (zI σ g 7) (zI σ g 3) (zI σ g 2) = 2 := by
      unfold dsz; split
      · exact Or.inr (Or.inr rfl)
      · split
        · exact Or.inl rfl
        · split
          · exact Or.inr (Or.inl rfl)
          · exact Or.inr (Or.inr rfl)
    refine ⟨by omega, fun n1 => ⟨fun n2 => hQ τ2 p2 (k1.tr k2) (by omega) (by rw [if_neg nk]; omega) ?_, fun y2' => x_addValue hg p2 o2 i2 (by omega) (fun τ3 p3 k3 s3 y3 => hQ τ3 p3 ((k1.tr k2).tr k3) (by omega) (by rw [if_neg nk]; omega) ?_)⟩, fun y1' => x_addByte p2 o2 (by omega) (fun τ3 p3 k3 s3 y3 => hQ τ3 p3 ((k1.tr k2).tr k3) (by omega) (by rw [if_neg nk]; omega) ?_)⟩
    · rw [y2]; unfold yMt; rw [if_neg nk, if_neg n1, if_neg n2]
    · rw [y3, y2, ob_I e2 2, ob_I e2 3, ob_I e2 5, ob_I e1 2, ob_I e1 3, ob_I e1 5]; unfold yMt; rw [if_neg nk, if_neg n1, if_pos y2']
    · rw [y3, y2, ob_I e2 2, ob_I e1 2]; unfold yMt; rw [if_neg nk, if_pos y1']
  refine x_isBare hg i1.1 (fun b => ⟨by decide, fun q => absurd q (by decide), fun _ => f53 _ ?_⟩) (fun b => ⟨by decide, fun _ => f53 _ ?_, fun q => absurd rfl q⟩)
  · rw [ob_I e1 6, ob_I e1 7] at b; rw [if_pos b]
  · rw [ob_I e1 6, ob_I e1 7] at b; rw [if_neg b]
/-- the reference's form -/
theorem r_emitForm {g k : Int} {σ ρ : ZS} {d : YD} {m : Int} {pend : List Int} {Q : ZS → Prop} (hB : RBd σ d ρ m (nm (zI σ g 3) ++ pend)) (hO : OR σ g ρ) (hi : OPB σ g) (hk : 0 ≤ k ∧ k < 8) (h12 : zI σ g 0 = 1 ∨ zI σ g 0 = 2) (hU : OpU ρ) (hs : zI ρ 0 33 = 1) (hp : zI ρ 0 31 + 2 ≤ 2 * zI ρ 0 6 + 8) (hQ : ∀ ρ' : ZS, RBd σ (yMt d σ g k) ρ' m pend → Em 2 ρ ρ' → Q ρ') : wpX11_emitForm k ρ Q := by
  have gg := hB.1
  have l37 := gg.2.1.2.2.2.2.2.2.2.2.2.2.2.2.2.1
  have l38 := gg.2.1.2.2.2.2.2.2.2.2.2.2.2.2.2.2.1
  have l39 := gg.2.1.2.2.2.2.2.2.2.2.2.2.2.2.2.2.2.1
  have l41 := gg.2.1.2.2.2.2.2.2.2.2.2.2.2.2.2.2.2.2.1
  have l42 := gg.2.1.2.2.2.2.2.2.2.2.2.2.2.2.2.2.2.2.2.1
  obtain ⟨a1, a2, a3, a4, a5, a6, a7⟩ := hi
  unfold wpX11_emitForm
  rcases h12 with k1 | k2
  · have ho : zI ρ 0 37 = 0 ∧ zI ρ 0 38 = zI σ g 1 ∧ 0 ≤ zI σ g 1 ∧ zI σ g 1 < 8 ∧ zI σ g 3 = -1 := by
      rcases hO with ⟨-, q⟩ | ⟨q, -⟩ | ⟨q, -⟩ | ⟨q, -⟩
      · exact q
      · omega
      · omega
      · omega
    rw [ho.2.2.2.2, show nm (-1) = [] from rfl, List.nil_append] at hB
    refine ⟨by omega, fun q => absurd ho.1 q, fun _ => r_octD hB hs (by omega) (by omega) (fun ρ' b e => hQ ρ' ?_ (e.up (by decide)))⟩
    unfold yMt
    rw [if_pos k1, show (192 + 8 * k + zI σ g 1) % 256 = 192 + 8 * k + zI ρ 0 38 by omega]
    exact b
  · have ho : MmR σ g ρ ∧ 0 ≤ zI σ g 2 ∧ zI σ g 2 < 65536 ∧ zI σ g 5 = 0 := by
      rcases hO with ⟨q, -⟩ | ⟨q, -⟩ | ⟨-, q⟩ | ⟨q, -⟩
      · omega
      · omega
      · exact q
      · omega
    obtain ⟨⟨o1, o2, o3, o4, o5⟩, v0, v1, v5⟩ := ho
    have e38 : zI ρ 0 38 = zI σ g 2 := by omega
    have hm := mdv_bd a6 a7
    have fold : yMt d σ g k = if dsz (zI σ g 6) (zI σ g 7) (zI σ g 3) (zI σ g 2) = 1 then yP (yP d 0 ((((64 * (if zI σ g 6 = 0 ∧ zI σ g 7 = 0 then 0 else dsz (zI σ g 6) (zI σ g 7) (zI σ g 3) (zI σ g 2))) + (8 * k)) + mdv (zI σ g 6) (zI σ g 7)) % 256) 0) 0 (zI σ g 2 % 256) 0 else if dsz (zI σ g 6) (zI σ g 7) (zI σ g 3) (zI σ g 2) = 2 then yV (yP d 0 ((((64 * (if zI σ g 6 = 0 ∧ zI σ g 7 = 0 then 0 else dsz (zI σ g 6) (zI σ g 7) (zI σ g 3) (zI σ g 2))) + (8 * k)) + mdv (zI σ g 6) (zI σ g 7)) % 256) 0) (zI σ g 3) (zI σ g 2) (zI σ g 5) else yP d 0 ((((64 * (if zI σ g 6 = 0 ∧ zI σ g 7 = 0 then 0 else dsz (zI σ g 6) (zI σ g 7) (zI σ g 3) (zI σ g 2))) + (8 * k)) + mdv (zI σ g 6) (zI σ g 7)) % 256) 0 := by
      unfold yMt; rw [if_neg (by omega)]
    -- the value behind the form's byte
    have val : ∀ (c : Int) (ρ1 : ZS), c = (((64 * (if zI σ g 6 = 0 ∧ zI σ g 7 = 0 then 0 else 2)) + (8 * k)) + mdv (zI σ g 6) (zI σ g 7)) → dsz (zI σ g 6) (zI σ g 7) (zI σ g 3) (zI σ g 2) = 2 → RBd σ (yP d 0 c 0) ρ1 m (nm (zI σ g 3) ++ pend) → Em 1 ρ ρ1 → (zI ρ1 0 39 < 0 → wpX11_piece 1 (zI ρ1 0 38) 0 0 ρ1 (fun σ17 => Q σ17)) ∧ (¬ zI ρ1 0 39 < 0 → wpX11_piece 2 (zI ρ1 0 39) (zI ρ1 0 38) 0 ρ1 (fun σ19 => Q σ19)) := by
      intro c ρ1 hc hz b e
      have g38 : zI ρ1 0 38 = zI ρ 0 38 := e.2.2.1.1 38 (by decide)
      have g39 : zI ρ1 0 39 = zI ρ 0 39 := e.2.2.1.1 39 (by decide)
      have g6 := e.s6
      have g31 := e.2.2.2.2
      have s1 := e.s33 hs
      have cc : (((64 * (if zI σ g 6 = 0 ∧ zI σ g 7 = 0 then 0 else dsz (zI σ g 6) (zI σ g 7) (zI σ g 3) (zI σ g 2))) + (8 * k)) + mdv (zI σ g 6) (zI σ g 7)) % 256 = c := by
        rw [hz, hc]; split <;> omega
      rw [fold, if_neg (by omega), if_pos hz, cc] at hQ
      refine ⟨fun n => x_piece b.1 s1 (by omega) (by decide) (fun q => absurd q (by decide)) (fun q => absurd q (by decide)) (by omega) (by decide) (by decide) (fun q => by omega) (fun ρ' e' x => hQ ρ' ?_ (e.tr e')), fun n => x_piece b.1 s1 (by omega) (by decide) (fun _ _ => by omega) (fun q => absurd q (by decide)) (by omega) (by omega) (by decide) (fun _ => ?_) (fun ρ' e' x => hQ ρ' ?_ (e.tr e'))⟩
      · unfold yV
        rw [if_neg (by omega)]
        rw [show nm (zI σ g 3) = [] from if_neg (by omega), List.nil_append] at b
        rw [g38, e38] at x
        exact b.piece e' x
      · have := (e.ops hU).1 (by rw [e.2.2.1.1 37 (by decide)]; exact o1) (by omega)
        exact this
      · unfold yV
        rw [if_pos (by omega), if_pos v5]
        rw [show nm (zI σ g 3) = [zI σ g 3] from if_pos (by omega)] at b
        rw [g38, e38, g39, o3] at x
        exact (RBd.use b).piece e' x
    have f80 : ∀ s : Int, s = (if zI σ g 6 = 0 ∧ zI σ g 7 = 0 then 0 else 128) → dsz (zI σ g 6) (zI σ g 7) (zI σ g 3) (zI σ g 2) = 2 → wpX11_emitForm_80 k (mdv (zI σ g 6) (zI σ g 7)) s ρ Q := by
      intro s hs' hz
      unfold wpX11_emitForm_80 wpX11_emitForm_217
      refine r_octD hB hs (by omega) (by split at hs' <;> omega) (fun ρ1 b e => ?_)
      have g39 : zI ρ1 0 39 = zI ρ 0 39 := e.2.2.1.1 39 (by decide)
      exact ⟨by omega, val _ ρ1 (by rw [hs']; split <;> omega) hz b e⟩
    have f68 : ∀ s : Int, (s = 0 ∨ s = 1) → (s = 1 ↔ zI σ g 6 = 0 ∧ zI σ g 7 = 0) → dsz (zI σ g 6) (zI σ g 7) (zI σ g 3) (zI σ g 2) = 2 → wpX11_emitForm_68 k (mdv (zI σ g 6) (zI σ g 7)) s ρ Q := by
      intro s hs' hb hz
      unfold wpX11_emitForm_68
      refine ⟨by omega, fun q => f80 128 ?_ hz, fun q => f80 0 ?_ hz⟩
      · rw [if_neg (fun z => by have := hb.mpr z; omega)]
      · rw [if_pos (hb.mp (by omega))]
    have f49 : ∀ s : Int, (s = 0 ∨ s = 1) → (s = 1 ↔ zI σ g 6 = 0 ∧ zI σ g 7 = 0) → wpX11_emitForm_49 k (mdv (zI σ g 6) (zI σ g 7)) s ρ Q := by
      intro s hs' hb
      have sg : (zI ρ 0 38 + 32768) % 65536 - 32768 = sgn (zI σ g 2) := by rw [e38]; rfl
      unfold wpX11_emitForm_49
      rw [sg]
      refine ⟨by omega, fun q => f68 s hs' hb (if_pos (Or.inl (hb.mp (by omega)))), fun z => ?_⟩
      have nb : ¬ (zI σ g 6 = 0 ∧ zI σ g 7 = 0) := fun q => by have := hb.mpr q; omega
      refine ⟨by omega, fun n => ?_, fun n => f68 s hs' hb (if_pos (Or.inr (by omega)))⟩
      have n1 : ¬ ((zI σ g 6 = 0 ∧ zI σ g 7 = 0) ∨ 0 ≤ zI σ g 3) := fun q => q.elim nb (by omega)
      have n0 : nm (zI σ g 3) = [] := if_neg (by omega)
      have f152 : ¬ (sgn (zI σ g 2) = 0 ∧ mdv (zI σ g 6) (zI σ g 7) ≠ 6) → wpX11_emitForm_152 k (mdv (zI σ g 6) (zI σ g 7)) (sgn (zI σ g 2)) ρ Q := by
        intro n2
        have f192 : ¬ (-128 ≤ sgn (zI σ g 2) ∧ sgn (zI σ g 2) ≤ 127) → wpX11_emitForm_192 k (mdv (zI σ g 6) (zI σ g 7)) ρ Q := by
          intro n3
          have hz : dsz (zI σ g 6) (zI σ g 7) (zI σ g 3) (zI σ g 2) = 2 := by unfold dsz; rw [if_neg n1, if_neg n2, if_neg n3]
          unfold wpX11_emitForm_192 wpX11_emitForm_217
          refine r_octD hB hs (by omega) (by omega) (fun ρ1 b e => ?_)
          exact (val _ ρ1 (by rw [if_neg nb]; omega) hz b e).1 (by rw [e.2.2.1.1 39 (by decide)]; exact n)
        unfold wpX11_emitForm_152 wpX11_emitForm_217
        refine ⟨by unfold sgn; omega, fun q => f192 (by omega), fun q => ⟨fun q' => f192 (by omega), fun q' => ?_⟩⟩
        have hz : dsz (zI σ g 6) (zI σ g 7) (zI σ g 3) (zI σ g 2) = 1 := by unfold dsz; rw [if_neg n1, if_neg n2, if_pos ⟨by omega, by omega⟩]
        rw [n0, List.nil_append] at hB
        refine r_octD hB hs (by omega) (by omega) (fun ρ1 b e => ?_)
        refine r_octD b (e.s33 hs) (by have := e.s6; have := e.2.2.2.2; omega) (by omega) (fun ρ2 b2 e2 => hQ ρ2 ?_ (e.tr e2))
        rw [fold, if_pos hz, hz, if_neg nb, show (64 * 1 + 8 * k + mdv (zI σ g 6) (zI σ g 7)) % 256 = 64 + 8 * k + mdv (zI σ g 6) (zI σ g 7) by omega, show zI σ g 2 % 256 = sgn (zI σ g 2) % 256 by unfold sgn; omega]
        exact b2
      refine ⟨fun q => f152 (fun w => q w.1), fun q => ⟨by omega, fun w => f152 (fun y => y.2 w), fun w => ?_⟩⟩
      have hz : dsz (zI σ g 6) (zI σ g 7) (zI σ g 3) (zI σ g 2) = 0 := by unfold dsz; rw [if_neg n1, if_pos ⟨q, w⟩]
      rw [n0, List.nil_append] at hB
      unfold wpX11_emitForm_217
      refine r_octD hB hs (by omega) (by omega) (fun ρ1 b e => hQ ρ1 ?_ (e.up (by decide)))
      rw [fold, hz, if_neg (by decide), if_neg (by decide), if_neg nb, show (64 * 0 + 8 * k + mdv (zI σ g 6) (zI σ g 7)) % 256 = 8 * k + mdv (zI σ g 6) (zI σ g 7) by omega]
      exact b
    refine ⟨by omega, fun _ => ?_, fun q => by omega⟩
    refine r_bits gg a6 a7 o4 o5 ⟨by omega, fun q => ?_, fun q => ⟨by omega, fun w => ?_, fun w => ?_⟩⟩
    · unfold wpX11_emitForm_48
      exact f49 0 (Or.inl rfl) ⟨fun z => absurd z (by decide), fun z => by unfold RGr at o4; omega⟩
    · unfold wpX11_emitForm_48
      exact f49 0 (Or.inl rfl) ⟨fun z => absurd z (by decide), fun z => by unfold RGr at o5; omega⟩
    · exact f49 1 (Or.inr rfl) ⟨fun _ => by unfold RGr at o4 o5; omega, fun _ => rfl⟩
