/-! X: add, or, and, sub, xor, cmp on both sides -/
theorem r_emitValD {g : Int} {σ ρ : ZS} {d : YD} {m : Int} {pend : List Int} {Q : ZS → Prop} (hB : RBd σ d ρ m (nm (zI σ g 3) ++ pend)) (h4 : zI σ g 0 = 4) (hO : OR σ g ρ) (hU : OpU ρ) (hs : zI ρ 0 33 = 1) (hp : zI ρ 0 31 + 1 ≤ 2 * zI ρ 0 6 + 8) (hQ : ∀ ρ' : ZS, RBd σ (yV d (zI σ g 3) (zI σ g 2) (zI σ g 5)) ρ' m pend → Em 1 ρ ρ' → Q ρ') : wpX11_emitValue ρ Q := by
  have gg := hB.1
  have l37 := gg.2.1.2.2.2.2.2.2.2.2.2.2.2.2.2.1
  have l38 := gg.2.1.2.2.2.2.2.2.2.2.2.2.2.2.2.2.1
  have l39 := gg.2.1.2.2.2.2.2.2.2.2.2.2.2.2.2.2.2.1
  have ho : (zI σ g 3 = -1 ∧ zI ρ 0 37 = 3 ∧ zI ρ 0 38 = zI σ g 2) ∨ (0 ≤ zI σ g 3 ∧ zI σ g 2 = 0 ∧ zI ρ 0 39 = zI σ g 3 ∧ ((zI σ g 5 = 0 ∧ zI ρ 0 37 = 4) ∨ (zI σ g 5 = 1 ∧ zI ρ 0 37 = 5))) := by
    rcases hO with ⟨q, -⟩ | ⟨q, -⟩ | ⟨q, -⟩ | ⟨-, q⟩
    · omega
    · omega
    · omega
    · exact q
  unfold wpX11_emitValue wpX11_emitValue_36 wpX11_emitValue_45
  unfold yV at hQ
  rcases ho with ⟨o1, o2, o3⟩ | ⟨o1, o2, o3, o4⟩
  · have n0 : nm (zI σ g 3) = [] := by rw [o1]; rfl
    rw [n0, List.nil_append] at hB
    rw [if_neg (by omega), ← o3] at hQ
    exact ⟨by omega, fun q => absurd o2 q, fun _ => x_piece gg hs hp (by decide) (fun q => absurd q (by decide)) (fun q => absurd q (by decide)) (by omega) (by decide) (by decide) (fun q => by omega) (fun ρ' e x => hQ ρ' (hB.piece e x) e)⟩
  · have n0 : nm (zI σ g 3) = [zI σ g 3] := if_pos o1
    rw [n0] at hB
    have hu := hU.2 (by omega)
    rw [if_pos o1] at hQ
    refine ⟨by omega, fun n3 => ⟨fun n4 => ?_, fun y4 => ?_⟩, fun q => by omega⟩
    · rw [if_neg (by omega)] at hQ
      refine x_piece gg hs hp (by decide) (fun _ _ => by omega) (fun q => absurd q (by decide)) (by omega) (by decide) (by decide) (fun _ => hu.2) (fun ρ' e x => hQ ρ' ?_ e)
      rw [o3] at x
      exact (RBd.use hB).piece e x
    · rw [if_pos (by omega), o2] at hQ
      refine x_piece gg hs hp (by decide) (fun _ _ => by omega) (fun q => absurd q (by decide)) (by omega) (by decide) (by decide) (fun _ => hu.2) (fun ρ' e x => hQ ρ' ?_ e)
      rw [o3] at x
      exact (RBd.use hB).piece e x
theorem t_arithmetic {h : Int → Int} {L n : Int} {E M : Int → Int} {σ : ZS} {Q : Int → ZS → Prop} (hP : PS σ) (hC : CT h L E M σ) (ho : zI σ 14 5 = 1) (hz : zI σ 13 7 ≤ 242) (hn : 0 ≤ n ∧ n < 8) (hQ : ∀ (x : Int) (τ : ZS), CSt σ τ x → TSt h L E M σ τ x (wpX11_reckon n) → Q x τ) : wpX8_arithmetic n σ Q := by
  have ab1 : AB 3 9 := by unfold AB; decide
  unfold wpX8_arithmetic wpX8_arithmetic_21
  refine t_operand (b := 9) (by decide) hP hC ab1 (fun τ og oi ok tr => ⟨by decide, fun q => absurd q (by decide), fun _ => ?_⟩) (fun τ og tr => ⟨by decide, fun _ => hQ 0 τ ⟨by decide, (PG.rf hP).o5 og, fun q => absurd q (by decide)⟩ (fun ρ Qr rS rB rF r31 h1 h0 => ?_), fun q => absurd rfl q⟩)
  rotate_left
  · unfold wpX11_reckon
    exact tr ρ [] _ rS rB rF (fun ρ' g p => ⟨by decide, fun q => absurd rfl q, fun _ => h0 rfl ρ' g p⟩)
  have pg := (PG.rf hP).o5 og
  have lv := og.lv (by decide)
  have hC1 := hC.k lv.1 lv.2.1
  have i0 := og.1.2.2.1.1
  have i1 : zI τ 14 4 < zI τ 12 3 := by have := og.1.2.2.1; omega
  have s13 : zI τ 13 7 = zI σ 13 7 := ob_I lv.2.2.1 7
  have w2 : zA τ 12 2 = zA σ 12 2 := ob_A lv.2.1 2
  have kk : (zI τ 5 0 = 1 ∧ zA σ 12 2 (zI σ 14 4) + 2 ≤ zA σ 12 2 (zI τ 14 4)) ∨ (zI τ 5 0 = 2 ∧ zA σ 12 2 (zI σ 14 4) + 3 ≤ zA σ 12 2 (zI τ 14 4)) := by
    rcases ok with ⟨q, -, q'⟩ | ⟨q, q', -⟩ | ⟨q, -, q'⟩ | ⟨q, q', -⟩
    · exact Or.inl ⟨q, q'⟩
    · exact q'.elim (fun z => absurd (by decide) z) (fun z => absurd (by decide) z)
    · exact Or.inr ⟨q, q'⟩
    · exact absurd (by decide) q'
  -- how the reference's operand is known from the class's
  have fst : ∀ ρ1 : ZS, OR τ 5 ρ1 → (zI τ 5 0 = 1 ∧ zI ρ1 0 37 = 0) ∨ (zI τ 5 0 = 2 ∧ zI ρ1 0 37 = 2) := by
    intro ρ1 r
    rcases r with ⟨a, b, -⟩ | ⟨a, -⟩ | ⟨a, b, -⟩ | ⟨a, -⟩
    · exact Or.inl ⟨a, b⟩
    · omega
    · exact Or.inr ⟨a, b.1⟩
    · omega
  -- a comma that is missing
  have bad : zA τ 12 0 (zI τ 14 4) ≠ 44 → Q 0 τ := by
    intro ne
    refine hQ 0 τ ⟨by decide, pg, fun q => absurd q (by decide)⟩ (fun ρ Qr rS rB rF r31 h1 h0 => ?_)
    unfold wpX11_reckon wpX11_reckon_66
    refine tr ρ [] _ rS rB rF (fun ρ1 s1 b1 d1 r1 => ⟨by decide, fun _ => ?_, fun q => absurd q (by decide)⟩)
    exact r_take hC1 i0 i1 s1 b1 (by unfold cS; omega) (fun t => absurd t ne) (fun _ => ⟨by decide, fun _ => h0 rfl _ (GG_34 b1.1) (d1.2.1.tr PR_fault), fun q => absurd rfl q⟩)
  refine c_take og.1 (by decide) (fun e44 p2 => ⟨by decide, fun _ => ?_, fun q => absurd q (by decide)⟩) (fun ne => ⟨by decide, fun q => absurd rfl q, fun _ => bad ne⟩)
  have pg2 := pg.on (show zA τ 12 0 (zI τ 14 4) ≠ 0 by omega)
  have q5 : ob (zsI τ 14 4 (zI τ 14 4 + 1)) 5 = ob τ 5 := ob_i (by decide)
  have q11 : ob (zsI τ 14 4 (zI τ 14 4 + 1)) 11 = ob τ 11 := ob_i (by decide)
  have q12 : ob (zsI τ 14 4 (zI τ 14 4 + 1)) 12 = ob τ 12 := ob_i (by decide)
  have q13 : ob (zsI τ 14 4 (zI τ 14 4 + 1)) 13 = ob τ 13 := ob_i (by decide)
  have qa : zI (zsI τ 14 4 (zI τ 14 4 + 1)) 14 4 = zI τ 14 4 + 1 := zI_s
  have qo : zI (zsI τ 14 4 (zI τ 14 4 + 1)) 14 5 = zI τ 14 5 := zI_f (by decide)
  have hC2 := hC1.k q11 q12
  have pl1 := (hC1.pl i0 i1 (show zA τ 12 0 (zI τ 14 4) ≠ 0 by omega)).1
  rw [w2] at pl1
  have r5 := oi.1.1
  -- the reference, from the start to behind its second operand
  have f40 : ∀ (v s : Int), AB v s → ((zI τ 5 0 = 1 ∧ s = 25) ∨ (zI τ 5 0 = 2 ∧ s = 17)) → zand v 8 = 0 → zand v 16 = 0 → (zI τ 5 0 = 2 → zand v 2 = 0) → wpX8_arithmetic_40 n v (zsI τ 14 4 (zI τ 14 4 + 1)) Q := by
    intro v s ab hs v8 v16 v2
    have road : ∀ (ρ : ZS) (Qr : Int → ZS → Prop), SY h L E σ (zI σ 14 4) ρ → RB σ ρ (M (zI σ 14 4)) [] → Fresh ρ → (∀ ρ1 ρ2 : ZS, OR τ 5 ρ1 → Opd ρ 1 ρ1 → PR ρ1 ρ2 → zI ρ2 0 31 = zI ρ1 0 31 → zI ρ1 0 6 + 1 ≤ zI ρ2 0 6 → SY h L E (zsI τ 14 4 (zI τ 14 4 + 1)) (zI (zsI τ 14 4 (zI τ 14 4 + 1)) 14 4) ρ2 → RB (zsI τ 14 4 (zI τ 14 4 + 1)) ρ2 (M (zI (zsI τ 14 4 (zI τ 14 4 + 1)) 14 4)) (nm (zI τ 5 3)) → Fresh ρ2 → wpX11_reckon_60 n (zI ρ1 0 37) (zI ρ1 0 38) (zI ρ1 0 39) (zI ρ1 0 41) (zI ρ1 0 42) s ρ2 Qr) → wpX11_reckon n ρ Qr := by
      intro ρ Qr rS rB rF k
      unfold wpX11_reckon
      refine tr ρ [] _ rS rB rF (fun ρ1 s1 b1 d1 r1 => ⟨by decide, fun _ => ?_, fun q => absurd q (by decide)⟩)
      refine r_take hC1 i0 i1 s1 b1 (by unfold cS; omega) (fun _ ρ2 s2 b2 f2 g2 p2' c1 c2 => ?_) (fun ne => absurd e44 ne)
      have l37 : -2147483648 ≤ zI ρ1 0 37 ∧ zI ρ1 0 37 ≤ 2147483647 := by have := fst ρ1 r1; omega
      have kk2 := k ρ1 ρ2 r1 d1 p2' (g2.1 31 (by decide)) c1 (by rw [qa]; exact s2.k q11 q12) (by rw [qa, hC1.m1 i0 i1 (by omega)]; exact b2.k q11 q13 qo) f2
      refine ⟨by decide, fun q => absurd q (by decide), fun _ => ⟨l37, fun y => ?_, fun y => ?_⟩⟩
      · have := fst ρ1 r1
        rw [show (17 : Int) = s by omega]; exact kk2
      · have := fst ρ1 r1
        rw [show (25 : Int) = s by omega]; exact kk2
    unfold wpX8_arithmetic_40 wpX8_arithmetic_156
    refine t_operand (b := s) (by decide) pg2.1 hC2 ab (fun υ ug ui uk ut => ⟨by decide, fun _ => ?_, fun q => absurd q (by decide)⟩) (fun υ ug ut => ⟨by decide, fun q => absurd rfl q, fun _ => hQ 0 υ ⟨by decide, pg2.o6 ug, fun q => absurd q (by decide)⟩ (fun ρ Qr rS rB rF r31 h1 h0 => road ρ Qr rS rB rF (fun ρ1 ρ2 r1 d1 p12 e31 e6 s2 b2 f2 => ?_))⟩)
    rotate_left
    · unfold wpX11_reckon_60 wpX11_reckon_66
      exact ut ρ2 _ _ s2 b2 f2 (fun ρ' g p => ⟨by decide, fun q => absurd rfl q, fun _ => h0 rfl ρ' g (d1.2.1.tr (p12.tr p))⟩)
    have ul := ug.lv (by decide)
    have pg3 := pg2.o6 ug
    have uo : zI υ 14 5 = 1 := pg3.2.2.trans ho
    have u5 : ob υ 5 = ob τ 5 := (ug.2.1 5 (by decide)).trans q5
    have u5i : OPI υ 5 := oi.k (ul.1.trans q11) u5
    have us : zI υ 13 7 = zI σ 13 7 := by rw [ob_I ul.2.2.1 7, ob_I q13 7, s13]
    have k6 : (zI υ 6 0 = 1 ∨ (zI υ 6 0 = 2 ∧ zI τ 5 0 = 1) ∨ zI υ 6 0 = 4) ∧ zA σ 12 2 (zI τ 14 4) + 2 ≤ zA σ 12 2 (zI υ 14 4) := by
      have e2 : zA (zsI τ 14 4 (zI τ 14 4 + 1)) 12 2 = zA σ 12 2 := (ob_A q12 2).trans w2
      unfold OKo at uk
      rw [e2, qa] at uk
      rcases uk with ⟨q, -, q'⟩ | ⟨q, q', -⟩ | ⟨q, q', q''⟩ | ⟨q, -, q'⟩
      · exact ⟨Or.inl q, by omega⟩
      · exact absurd v16 (q'.elim (fun z => absurd v8 z) (fun z => z))
      · refine ⟨Or.inr (Or.inl ⟨q, ?_⟩), by omega⟩
        rcases kk with ⟨z, -⟩ | ⟨z, -⟩
        · exact z
        · exact absurd (v2 z) q'
      · exact ⟨Or.inr (Or.inr q), by omega⟩
    have r6 := ui.1.1
    have o5 := u5i.1.1
    have t0 : zI υ 5 0 = zI τ 5 0 := ob_I u5 0
    -- the end, seen from both sides
    have fin : ∀ ω : ZS, PS ω → kp [13] υ ω → zI ω 13 7 ≤ zI σ 13 7 + 4 → (zI υ 5 0 = 1 → zI ω 13 7 ≤ zI σ 13 7 + 3) → (∀ (ρ1 ρ3 : ZS) (Qr : Int → ZS → Prop), GG ρ1 → OR τ 5 ρ1 → OpU ρ1 → PR ρ1 ρ3 → OR υ 6 ρ3 → OpU ρ3 → zI ρ3 0 33 = 1 → zI ρ3 0 31 + 4 ≤ 2 * zI ρ3 0 6 → RBd υ (yS υ) ρ3 (M (zI υ 14 4)) (nm (zI τ 5 3) ++ nm (zI υ 6 3)) → (∀ ρ' : ZS, RBd υ (yS ω) ρ' (M (zI υ 14 4)) [] → SY h L E υ (zI υ 14 4) ρ3 → PR ρ3 ρ' → zI ρ' 0 6 = zI ρ3 0 6 → zI ρ' 0 31 ≤ zI ρ3 0 31 + 4 → (∀ f : Nat, f = 2 ∨ f = 5 ∨ f = 7 ∨ f = 8 ∨ f = 9 ∨ f = 10 ∨ f = 17 ∨ f = 23 → zI ρ' 0 f = zI ρ3 0 f) → zA ρ' 0 1 = zA ρ3 0 1 → Qr 1 ρ') → (∀ q31 : (-2147483648 ≤ zI ρ1 0 37 ∧ zI ρ1 0 37 ≤ 2147483647), SY h L E υ (zI υ 14 4) ρ3 → (¬ zI ρ1 0 37 = 0 → wpX11_reckon_118 n (zI ρ1 0 37) (zI ρ1 0 38) (zI ρ1 0 39) (zI ρ1 0 41) (zI ρ1 0 42) (zI ρ3 0 37) (zI ρ3 0 38) (zI ρ3 0 39) ρ3 Qr) ∧ (zI ρ1 0 37 = 0 → (-2147483648 ≤ (zI ρ3 0 37) ∧ (zI ρ3 0 37) ≤ 2147483647) ∧ ((zI ρ3 0 37) = 0 → wpX11_reckon_101 n (zI ρ1 0 38) ρ3 Qr) ∧ (¬ (zI ρ3 0 37) = 0 → (¬ (zI ρ3 0 37) = 2 → wpX11_reckon_118 n (zI ρ1 0 37) (zI ρ1 0 38) (zI ρ1 0 39) (zI ρ1 0 41) (zI ρ1 0 42) (zI ρ3 0 37) (zI ρ3 0 38) (zI ρ3 0 39) ρ3 Qr) ∧ ((zI ρ3 0 37) = 2 → wpX11_reckon_101 n (zI ρ1 0 38) ρ3 Qr))))) → Q 1 ω := by
      intro ω wp wk wz wz1 em
      refine hQ 1 ω ⟨by decide, pg3.ad wp wk, fun _ => ?_⟩ (fun ρ Qr rS rB rF r31 h1 h0 => road ρ Qr rS rB rF (fun ρ1 ρ2 r1 d1 p12 e31 e6 s2 b2 f2 => ?_))
      · rw [wk.I (by decide) 4]
        rcases kk with ⟨z, y⟩ | ⟨z, y⟩
        · have := wz1 (by omega); omega
        · omega
      · obtain ⟨g1, p1, q31, -, q1⟩ := d1
        obtain ⟨q6, qU, qF⟩ := q1 rfl
        unfold wpX11_reckon_60
        refine ut ρ2 _ _ s2 b2 f2 (fun ρ3 s3 b3 d3 r3 => ⟨by decide, fun _ => ?_, fun q => absurd q (by decide)⟩)
        obtain ⟨g3, p3, q331, -, q3⟩ := d3
        obtain ⟨q36, q3U, q3F⟩ := q3 rfl
        have l37 : -2147483648 ≤ zI ρ1 0 37 ∧ zI ρ1 0 37 ≤ 2147483647 := by have := fst ρ1 r1; omega
        have e33 : zI ρ3 0 33 = 1 := by rw [b3.2.2.1]; exact uo
        refine ⟨l37, em ρ1 ρ3 Qr g1 r1 qU (p12.tr p3) r3 q3U e33 (by omega) b3 (fun ρ' b' _ pr' e6' e31' ef ea => h1 rfl ρ' ?_ ?_ ?_ (p1.tr (p12.tr (p3.tr pr'))) (by omega)) l37 s3⟩
        · rw [wk.I (by decide) 4]
          obtain ⟨a1, a2, a3, a4, a5⟩ := s3
          exact SY.k ⟨(ef 2 (by omega)).trans a1, fun j j0 j1 => by rw [ea]; exact a2 j j0 j1, (ef 5 (by omega)).trans a3, e6'.trans a4, a5.k (ef 7 (by omega)) (ef 8 (by omega)) (ef 9 (by omega)) (ef 10 (by omega))⟩ (wk 11 (by decide)) (wk 12 (by decide))
        · rw [wk.I (by decide) 4]
          exact b'.b (wk 11 (by decide)) (wk.I (by decide) 5) rfl
        · intro q
          rw [ef 7 (by omega)] at q
          rw [ef 17 (by omega), e6', ef 23 (by omega)]
          exact q3F q
    -- the reference's two bytes and more, with the left operand put back
    have b118 : ∀ (ρ1 ρ3 : ZS) (Qr : Int → ZS → Prop) (a k : Int) (K K5 : ZS → Prop), GG ρ1 → OR τ 5 ρ1 → OpU ρ1 → PR ρ1 ρ3 → zI ρ3 0 33 = 1 → zI ρ3 0 31 + 4 ≤ 2 * zI ρ3 0 6 → RBd υ (yS υ) ρ3 (M (zI υ 14 4)) (nm (zI τ 5 3) ++ nm (zI υ 6 3)) → (0 ≤ a ∧ a ≤ 255) → (0 ≤ k ∧ k < 8) → (∀ ρ5 : ZS, wpX11_emitForm k ρ5 K → K5 ρ5) → (∀ ρ6 : ZS, RBd υ (yMt (yP (yS υ) 0 a 0) υ 5 k) ρ6 (M (zI υ 14 4)) (nm (zI υ 6 3)) → Em 3 (zsI (zsI (zsI (zsI (zsI ρ3 0 37 (zI ρ1 0 37)) 0 38 (zI ρ1 0 38)) 0 39 (zI ρ1 0 39)) 0 41 (zI ρ1 0 41)) 0 42 (zI ρ1 0 42)) ρ6 → K ρ6) → wpX11_octet a (zsI (zsI (zsI (zsI (zsI ρ3 0 37 (zI ρ1 0 37)) 0 38 (zI ρ1 0 38)) 0 39 (zI ρ1 0 39)) 0 41 (zI ρ1 0 41)) 0 42 (zI ρ1 0 42)) K5 := by
      intro ρ1 ρ3 Qr a k K K5 g1 r1 u1 p13 e33 e31 b3 ha hk h5 hK
      have l37 := g1.2.1.2.2.2.2.2.2.2.2.2.2.2.2.2.1
      have l38 := g1.2.1.2.2.2.2.2.2.2.2.2.2.2.2.2.2.1
      have l39 := g1.2.1.2.2.2.2.2.2.2.2.2.2.2.2.2.2.2.1
      have l41 := g1.2.1.2.2.2.2.2.2.2.2.2.2.2.2.2.2.2.2.1
      have l42 := g1.2.1.2.2.2.2.2.2.2.2.2.2.2.2.2.2.2.2.2.1
      have b4 : RBd υ (yS υ) (zsI (zsI (zsI (zsI (zsI ρ3 0 37 (zI ρ1 0 37)) 0 38 (zI ρ1 0 38)) 0 39 (zI ρ1 0 39)) 0 41 (zI ρ1 0 41)) 0 42 (zI ρ1 0 42)) (M (zI υ 14 4)) (nm (zI υ 5 3) ++ nm (zI υ 6 3)) := by
        rw [ob_I u5 3]
        exact ⟨GG_ops b3.1 l37 l38 l39 l41 l42, b3.2⟩
      refine r_octD b4 e33 (show zI ρ3 0 31 + 1 ≤ 2 * zI ρ3 0 6 + 8 by omega) (by omega) (fun ρ5 b5 e5 => ?_)
      have j6 : zI ρ5 0 6 = zI ρ3 0 6 := e5.s6
      have j31 : zI ρ5 0 31 ≤ zI ρ3 0 31 + 1 := e5.2.2.2.2
      refine h5 ρ5 (r_emitForm (g := 5) b5 (e5.or (r1.k u5 rfl rfl rfl rfl rfl)) u5i.1 hk (by omega) (e5.ops (u1.pr (p13.tr PR_ops) rfl rfl)) (e5.s33 e33) (by omega) (fun ρ6 b6 e6 => hK ρ6 b6 (e5.tr e6)))
    have hit : ∀ f : Nat, (f = 2 ∨ f = 5 ∨ f = 7 ∨ f = 8 ∨ f = 9 ∨ f = 10 ∨ f = 17 ∨ f = 23) → f ∉ ([31] : List Nat) := fun f hf q => by have := List.mem_singleton.mp q; omega
    refine ⟨by omega, fun n4 => ⟨by omega, fun y1 => ?_, fun y1 => ?_⟩, fun y4 => ?_⟩
    · -- memory, register
      have y2 : zI τ 5 0 = 2 := by omega
      have z6 : zI υ 6 0 = 1 := by omega
      refine x_addWithM (by decide) ug.1 uo u5i (by omega) (fun ω wp wk wz wz' wy => fin ω wp wk (by rw [if_neg y1] at wz'; omega) (fun q => absurd q y1) (fun ρ1 ρ3 Qr g1 r1 u1 p13 r3 u3 e33 e31 b3 k l37 s3 => ?_))
      have q37 := fst ρ1 r1
      have r6' : zI ρ3 0 37 = 0 ∧ zI ρ3 0 38 = zI υ 6 1 ∧ 0 ≤ zI υ 6 1 ∧ zI υ 6 1 < 8 ∧ zI υ 6 3 = -1 := by
        rcases r3 with ⟨-, q⟩ | ⟨q, -⟩ | ⟨q, -⟩ | ⟨q, -⟩
        · exact q
        · omega
        · omega
        · omega
      obtain ⟨x1, x2, x3, x4, x5⟩ := r6'
      refine ⟨fun _ => ?_, fun q => by omega⟩
      unfold wpX11_reckon_118 wpX11_reckon_164 wpX11_reckon_179 wpX11_reckon_210
      refine ⟨by omega, fun q => absurd x1 q, fun _ => ?_⟩
      have l38 := b3.1.2.1.2.2.2.2.2.2.2.2.2.2.2.2.2.2.1
      have l39 := b3.1.2.1.2.2.2.2.2.2.2.2.2.2.2.2.2.2.2.1
      refine b118 ρ1 ρ3 Qr (8 * n + 1) (zI ρ3 0 38) _ _ g1 r1 u1 p13 e33 e31 b3 (by omega) (by omega) (fun ρ5 w => ⟨by omega, fun q => absurd x1 q, fun _ => w⟩) (fun ρ6 b6 e6 => ⟨by omega, fun _ => k _ ?_ s3 ?_ e6.s6 (show zI ρ6 0 31 ≤ zI ρ3 0 31 + 4 from ?_) (fun f hf => ?_) ?_, fun q => by omega⟩)
      · rw [x5] at b6
        rw [wy, show (8 * n + 1) % 256 = 8 * n + 1 by omega, ← x2]
        exact ⟨GG_39 (GG_38 (GG_37 b6.1 (by omega)) l38) l39, b6.2⟩
      · exact PR_ops.tr (e6.2.1.tr ((PR_op (by decide)).tr ((PR_op (by decide)).tr (PR_op (by decide)))))
      · have : zI ρ6 0 31 ≤ zI ρ3 0 31 + 3 := e6.2.2.2.2
        omega
      · have e := e6.2.2.1.1 f (hit f hf)
        rcases hf with rfl | rfl | rfl | rfl | rfl | rfl | rfl | rfl <;> exact e
      · exact e6.2.2.1.2 1 (by decide)
    · -- register, register or memory
      have z6 : zI υ 6 0 = 1 ∨ zI υ 6 0 = 2 := by omega
      refine x_addWithM (by decide) ug.1 uo ui (by omega) (fun ω wp wk wz wz' wy => fin ω wp wk (by split at wz' <;> omega) (fun _ => by split at wz' <;> omega) (fun ρ1 ρ3 Qr g1 r1 u1 p13 r3 u3 e33 e31 b3 k l37 s3 => ?_))
      have r5' : zI ρ1 0 37 = 0 ∧ zI ρ1 0 38 = zI τ 5 1 ∧ 0 ≤ zI τ 5 1 ∧ zI τ 5 1 < 8 ∧ zI τ 5 3 = -1 := by
        rcases r1 with ⟨-, q⟩ | ⟨q, -⟩ | ⟨q, -⟩ | ⟨q, -⟩
        · exact q
        · omega
        · omega
        · omega
      obtain ⟨x1, x2, x3, x4, x5⟩ := r5'
      have q37 : zI ρ3 0 37 = 0 ∨ zI ρ3 0 37 = 2 := by
        rcases r3 with ⟨-, q, -⟩ | ⟨q, -⟩ | ⟨-, q, -⟩ | ⟨q, -⟩
        · exact Or.inl q
        · omega
        · exact Or.inr q.1
        · omega
      have f101 : wpX11_reckon_101 n (zI ρ1 0 38) ρ3 Qr := by
        unfold wpX11_reckon_101
        have b3' : RBd υ (yS υ) ρ3 (M (zI υ 14 4)) (nm (zI υ 6 3) ++ []) := by
          rw [x5] at b3
          rw [List.append_nil]; exact b3
        refine r_octD b3' e33 (by omega) (by omega) (fun ρ5 b5 e5 => ?_)
        have j6 := e5.s6
        have j31 := e5.2.2.2.2
        refine r_emitForm (g := 6) b5 (e5.or r3) ui.1 (by omega) z6 (e5.ops u3) (e5.s33 e33) (by omega) (fun ρ6 b6 e6 => ?_)
        have i6 := e6.s6
        have i31 := e6.2.2.2.2
        refine k ρ6 ?_ s3 (e5.2.1.tr e6.2.1) (i6.trans j6) (by omega) (fun f hf => (e6.2.2.1.1 f (hit f hf)).trans (e5.2.2.1.1 f (hit f hf))) ((e6.2.2.1.2 1 (by decide)).trans (e5.2.2.1.2 1 (by decide)))
        rw [wy, show (8 * n + 3) % 256 = 8 * n + 3 by omega, ob_I u5 1, ← x2]
        exact b6
      exact ⟨fun q => absurd x1 q, fun _ => ⟨by omega, fun _ => f101, fun _ => ⟨fun q => by omega, fun _ => f101⟩⟩⟩
    · -- a value
      refine x_addWithM (by decide) ug.1 uo u5i (by omega) (fun ω wp wk wz wz' wy => ?_)
      have w6 : ob ω 6 = ob υ 6 := wk 6 (by decide)
      refine x_addValue (by decide) wp ((wk.I (by decide) 5).trans uo) (ui.k (wk 11 (by decide)) w6) (by split at wz' <;> omega) (fun ω2 wp2 wk2 wz2 wy2 => fin ω2 wp2 (wk.tr wk2) (by split at wz' <;> omega) (fun q => by rw [if_pos q] at wz'; omega) (fun ρ1 ρ3 Qr g1 r1 u1 p13 r3 u3 e33 e31 b3 k l37 s3 => ?_))
      have q37 : 3 ≤ zI ρ3 0 37 ∧ zI ρ3 0 37 ≤ 5 := by
        rcases r3 with ⟨q, -⟩ | ⟨q, -⟩ | ⟨q, -⟩ | ⟨-, ⟨-, q, -⟩ | ⟨-, -, -, ⟨-, q⟩ | ⟨-, q⟩⟩⟩
        · omega
        · omega
        · omega
        · omega
        · omega
        · omega
      have l38 := b3.1.2.1.2.2.2.2.2.2.2.2.2.2.2.2.2.2.1
      have l39 := b3.1.2.1.2.2.2.2.2.2.2.2.2.2.2.2.2.2.2.1
      have f118 : wpX11_reckon_118 n (zI ρ1 0 37) (zI ρ1 0 38) (zI ρ1 0 39) (zI ρ1 0 41) (zI ρ1 0 42) (zI ρ3 0 37) (zI ρ3 0 38) (zI ρ3 0 39) ρ3 Qr := by
        unfold wpX11_reckon_118 wpX11_reckon_164 wpX11_reckon_179 wpX11_reckon_210
        refine ⟨by omega, fun _ => ?_, fun q => by omega⟩
        refine b118 ρ1 ρ3 Qr 129 n _ _ g1 r1 u1 p13 e33 e31 b3 (by decide) hn (fun ρ5 w => ⟨by omega, fun _ => w, fun q => by omega⟩) (fun ρ6 b6 e6 => ⟨by omega, fun q => by omega, fun _ => ?_⟩)
        have j6 : zI ρ6 0 6 = zI ρ3 0 6 := e6.s6
        have j31 : zI ρ6 0 31 ≤ zI ρ3 0 31 + 3 := e6.2.2.2.2
        have b7 : RBd υ (yMt (yP (yS υ) 0 129 0) υ 5 n) (zsI (zsI (zsI ρ6 0 37 (zI ρ3 0 37)) 0 38 (zI ρ3 0 38)) 0 39 (zI ρ3 0 39)) (M (zI υ 14 4)) (nm (zI υ 6 3) ++ []) := by
          rw [List.append_nil]
          exact ⟨GG_39 (GG_38 (GG_37 b6.1 (by omega)) l38) l39, b6.2⟩
        have r7 : OR υ 6 (zsI (zsI (zsI ρ6 0 37 (zI ρ3 0 37)) 0 38 (zI ρ3 0 38)) 0 39 (zI ρ3 0 39)) := by
          rcases r3 with ⟨q, -⟩ | ⟨q, -⟩ | ⟨q, -⟩ | q
          · omega
          · omega
          · omega
          · exact Or.inr (Or.inr (Or.inr q))
        have p67 : PR ρ6 (zsI (zsI (zsI ρ6 0 37 (zI ρ3 0 37)) 0 38 (zI ρ3 0 38)) 0 39 (zI ρ3 0 39)) := (PR_op (by decide)).tr ((PR_op (by decide)).tr (PR_op (by decide)))
        refine r_emitValD (g := 6) b7 y4 r7 (u3.pr (PR_ops.tr (e6.2.1.tr p67)) rfl rfl) (e6.s33 e33) (show zI ρ6 0 31 + 1 ≤ 2 * zI ρ6 0 6 + 8 by omega) (fun ρ8 b8 e8 => k ρ8 ?_ s3 (PR_ops.tr (e6.2.1.tr (p67.tr e8.2.1))) (e8.s6.trans e6.s6) ?_ (fun f hf => ?_) ?_)
        · rw [wy2, wy, ob_I w6 2, ob_I w6 3, ob_I w6 5, show (129 : Int) % 256 = 129 from rfl]
          exact b8
        · have : zI ρ8 0 31 ≤ zI ρ6 0 31 + 1 := e8.2.2.2.2
          omega
        · have e1 := e8.2.2.1.1 f (hit f hf)
          have e2 := e6.2.2.1.1 f (hit f hf)
          rcases hf with rfl | rfl | rfl | rfl | rfl | rfl | rfl | rfl <;> exact e1.trans e2
        · exact (e8.2.2.1.2 1 (by decide)).trans (e6.2.2.1.2 1 (by decide))
      exact ⟨fun _ => f118, fun _ => ⟨by omega, fun q => by omega, fun _ => ⟨fun _ => f118, fun q => by omega⟩⟩⟩
  rw [show zI (zsI τ 14 4 (zI τ 14 4 + 1)) 5 0 = zI τ 5 0 from ob_I q5 0]
  refine ⟨by omega, fun y => f40 5 17 (by unfold AB; decide) (by omega) (by decide) (by decide) (fun _ => by decide), fun y => f40 (zor 5 2) 25 (by unfold AB; decide) (by omega) (by decide) (by decide) (fun q => by omega)⟩
