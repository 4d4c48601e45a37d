/-! X: instructions as a whole -/
/-- what a statement of the class does, its word with it -/
def CSi (σ τ : ZS) (x : Int) : Prop := (0 ≤ x ∧ x ≤ 1) ∧ PS τ ∧ kp [5, 6, 13, 14] σ τ ∧ (x = 1 → 2 * zI τ 13 7 ≤ zA σ 12 2 (zI τ 14 4) + 1 ∧ zI σ 14 4 ≤ zI τ 14 4)
/-- the reference's method does the same, from its word on -/
def TSi (h : Int → Int) (L : Int) (E M : Int → Int) (σ τ : ZS) (x : Int) (W : ZS → (Int → ZS → Prop) → Prop) : Prop := ∀ (ρ : ZS) (Qr : Int → ZS → Prop), SY h L E σ (zI σ 14 4) ρ → RB σ ρ (M (zI σ 14 4)) [] → Fresh ρ → zI ρ 0 31 ≤ 2 * zI ρ 0 6 → (x = 1 → ∀ ρ' : ZS, SY h L E τ (zI τ 14 4) ρ' → RB τ ρ' (M (zI τ 14 4)) [] → Fresh ρ' → PR ρ ρ' → zI ρ' 0 31 ≤ 2 * zI ρ' 0 6 → Qr 1 ρ') → (x = 0 → ∀ ρ' : ZS, GG ρ' → PR ρ ρ' → Qr 0 ρ') → W ρ Qr
theorem TSt.i {h : Int → Int} {L x : Int} {E M : Int → Int} {σ τ : ZS} {W : ZS → (Int → ZS → Prop) → Prop} {C : ZS → ZS → (Int → ZS → Prop) → Prop} (hP : PS σ) (hC : CT h L E M σ) (t6 : zA σ 12 0 (zI σ 14 4) = 6) (k : TSt h L E M (zsI σ 14 4 (zI σ 14 4 + 1)) τ x W) (hV : ∀ (ρ γ : ZS) (Qr : Int → ZS → Prop), GG ρ → GG γ → zI ρ 0 9 = zA σ 12 1 (zI σ 14 4) + 12 → zI ρ 0 6 = zA σ 12 2 (zI σ 14 4) → (∀ Qr' : Int → ZS → Prop, (∀ (y : Int) (ρ' : ZS), 0 ≤ y ∧ y ≤ 1 → Qr y ρ' → Qr' y ρ') → W γ Qr') → C ρ γ Qr) : TSi h L E M σ τ x (fun ρ Qr => wpX11_next ρ (fun γ => C ρ γ Qr)) := by
  intro ρ Qr rS rB rF r31 h1 h0
  have i0 := hP.2.2.1.1
  have i1 : zI σ 14 4 < zI σ 12 3 := by have := hP.2.2.1; omega
  have q11 : ob (zsI σ 14 4 (zI σ 14 4 + 1)) 11 = ob σ 11 := ob_i (by decide)
  have q12 : ob (zsI σ 14 4 (zI σ 14 4 + 1)) 12 = ob σ 12 := ob_i (by decide)
  have q13 : ob (zsI σ 14 4 (zI σ 14 4 + 1)) 13 = ob σ 13 := ob_i (by decide)
  have qa : zI (zsI σ 14 4 (zI σ 14 4 + 1)) 14 4 = zI σ 14 4 + 1 := zI_s
  have qo : zI (zsI σ 14 4 (zI σ 14 4 + 1)) 14 5 = zI σ 14 5 := zI_f (by decide)
  have T := (rS.2.2.2.2.f.2.2.2.2.2.2.2.2.2.1 t6).1
  refine r_next hC i0 i1 rS rB (by omega) (fun γ gS gB gF gf gp g1 g2 => hV ρ γ Qr rB.1 gB.1 T rS.2.2.2.1 (fun Qr' hq => k γ Qr' ?_ ?_ gF ?_ (fun e ρ' a b c d f => hq 1 ρ' (by decide) (h1 e ρ' a b c (gp.tr d) f)) (fun e ρ' a b => hq 0 ρ' (by decide) (h0 e ρ' a (gp.tr b)))))
  · rw [qa]; exact gS.k q11 q12
  · rw [qa, hC.m1 i0 i1 (by omega)]; exact gB.k q11 q13 qo
  · have := gf.1 31 (by decide)
    omega
theorem CT.ix {h : Int → Int} {L i j : Int} {E M : Int → Int} {σ : ZS} (hC : CT h L E M σ) (j0 : 0 ≤ j) (i1 : i < zI σ 12 3) (hp : zA σ 12 2 i ≤ zA σ 12 2 j) : i ≤ j := by
  by_cases q : i ≤ j
  · exact q
  · have := hC.pk (i := j) j0 (i - j).toNat (by omega)
    rw [show j + ((i - j).toNat : Int) = i by omega] at this
    omega
theorem CSt.i {h : Int → Int} {L x : Int} {E M : Int → Int} {σ τ : ZS} (hP : PS σ) (hC : CT h L E M σ) (t6 : zA σ 12 0 (zI σ 14 4) = 6) (hz : 2 * zI σ 13 7 ≤ zA σ 12 2 (zI σ 14 4)) (k : CSt (zsI σ 14 4 (zI σ 14 4 + 1)) τ x) : CSi σ τ x := by
  have i0 := hP.2.2.1.1
  have i1 : zI σ 14 4 < zI σ 12 3 := by have := hP.2.2.1; omega
  obtain ⟨k1, k2, k3⟩ := k
  have on : PG σ (zsI σ 14 4 (zI σ 14 4 + 1)) := (PG.rf hP).on (by omega)
  refine ⟨k1, k2.1, on.2.1.tr k2.2.1, fun e => ?_⟩
  have e3 : zI τ 12 3 = zI σ 12 3 := (on.2.1.tr k2.2.1).I (by decide) 3
  have t4 := k2.1.2.2.1
  have p := (hC.pl i0 i1 (show zA σ 12 0 (zI σ 14 4) ≠ 0 by omega)).2 (Or.inr (Or.inr t6))
  have k3' := k3 e
  rw [show zA (zsI σ 14 4 (zI σ 14 4 + 1)) 12 2 = zA σ 12 2 from rfl, show zI (zsI σ 14 4 (zI σ 14 4 + 1)) 13 7 = zI σ 13 7 from rfl, show zI (zsI σ 14 4 (zI σ 14 4 + 1)) 14 4 = zI σ 14 4 + 1 from zI_s] at k3'
  have ix := hC.ix (i := zI σ 14 4) (j := zI τ 14 4) t4.1 (by omega) (by omega)
  omega
/-- a byte alone -/
theorem t_plain {h : Int → Int} {L b : Int} {E M : Int → Int} {σ : ZS} {Q : ZS → Prop} (hP : PS σ) (ho : zI σ 14 5 = 1) (hz : zI σ 13 7 ≤ 242) (hb : 0 ≤ b ∧ b < 256) (hQ : ∀ τ : ZS, CSt σ τ 1 → TSt h L E M σ τ 1 (fun γ Qr => wpX11_octet b γ (fun γ' => Qr 1 γ')) → Q τ) : wpX0_addByte b σ Q := by
  refine x_addByte hP ho (by omega) (fun υ up uk us uy => hQ υ ⟨by decide, (PG.rf hP).ad up uk, fun _ => ?_⟩ (fun ρ Qr rS rB rF r31 h1 h0 => ?_))
  · rw [uk.I (by decide) 4]; omega
  · have e33 : zI ρ 0 33 = 1 := by rw [rB.2.2.1]; exact ho
    refine r_octD rB.d e33 (by omega) (by omega) (fun ρ2 b2 e2 => ?_)
    have j6 := e2.s6
    have j31 := e2.2.2.2.2
    refine h1 rfl ρ2 ?_ ?_ (e2.fresh rF) e2.2.1 (by omega)
    · rw [uk.I (by decide) 4]
      exact (e2.sy rS).k (uk 11 (by decide)) (uk 12 (by decide))
    · rw [uk.I (by decide) 4]
      refine b2.b (uk 11 (by decide)) (uk.I (by decide) 5) ?_
      rw [uy, show b % 256 = b by omega]
/-- the reference's int, behind its word -/
def wInt (γ : ZS) (Qr : Int → ZS → Prop) : Prop := (-2147483648 ≤ (zI γ 0 7) ∧ (zI γ 0 7) ≤ 2147483647) ∧ (¬ (zI γ 0 7) = 2 → wpX11_instruction_123 γ Qr) ∧ ((zI γ 0 7) = 2 → (-2147483648 ≤ (zI γ 0 10) ∧ (zI γ 0 10) ≤ 2147483647) ∧ ((zI γ 0 10) ≤ 255 → wpX11_octet 205 γ (fun σ25 => wpX11_octet (zI σ25 0 10) σ25 (fun σ27 => wpX11_next σ27 (fun σ29 => wpX11_instruction_181 σ29 Qr)))) ∧ (¬ (zI γ 0 10) ≤ 255 → wpX11_instruction_123 γ Qr))
theorem t_int {h : Int → Int} {L : Int} {E M : Int → Int} {σ : ZS} {Q : Int → ZS → Prop} (hP : PS σ) (hC : CT h L E M σ) (ho : zI σ 14 5 = 1) (hz : zI σ 13 7 ≤ 242) (hQ : ∀ (x : Int) (τ : ZS), CSt σ τ x → TSt h L E M σ τ x wInt → Q x τ) : wpX0_addByte 205 σ (fun υ => wpX8_numbered 4 256 υ Q) := by
  have i0 := hP.2.2.1.1
  have i1 : zI σ 14 4 < zI σ 12 3 := by have := hP.2.2.1; omega
  have v0 := hP.tk.2.1
  refine x_addByte hP ho (by omega) (fun υ up uk us uy => ?_)
  have ua : zI υ 14 4 = zI σ 14 4 := uk.I (by decide) 4
  have u0 : zA υ 12 0 = zA σ 12 0 := uk.A (by decide) 0
  have u1 : zA υ 12 1 = zA σ 12 1 := uk.A (by decide) 1
  have pgu : PG σ υ := (PG.rf hP).ad up uk
  refine x_numbered up (Or.inl ⟨rfl, rfl⟩) ((uk.I (by decide) 5).trans ho) (by omega) (fun t2 lt τ pg ta ts t11 t12 ty => ?_) (fun nt => hQ 0 υ ⟨by decide, pgu, fun q => absurd q (by decide)⟩ (fun ρ Qr rS rB rF r31 h1 h0 => ?_))
  · rw [u0, ua] at t2
    rw [u1, ua] at lt
    rw [u1, ua, uy] at ty
    rw [ua] at ta
    refine hQ 1 τ ⟨by decide, pgu.tr pg, fun _ => ?_⟩ (fun ρ Qr rS rB rF r31 h1 h0 => ?_)
    · rw [ta]
      have := (hC.pl i0 i1 (by omega)).1
      omega
    · have T2 := rS.2.2.2.2.f.2.1.mp t2
      have Tv := rS.2.2.2.2.f.2.2.1 t2
      have e33 : zI ρ 0 33 = 1 := by rw [rB.2.2.1]; exact ho
      unfold wInt wpX11_instruction_181
      refine ⟨by omega, fun q => absurd T2 q, fun _ => ⟨by omega, fun _ => ?_, fun q => by omega⟩⟩
      refine r_octD rB.d e33 (by omega) (by decide) (fun ρ2 b2 e2 => ?_)
      have j6 := e2.s6
      have j31 := e2.2.2.2.2
      have j10 : zI ρ2 0 10 = zI ρ 0 10 := e2.2.2.1.1 10 (by decide)
      refine r_octD b2 (e2.s33 e33) (by omega) (by omega) (fun ρ3 b3 e3 => ?_)
      have m6 := e3.s6
      have m31 := e3.2.2.2.2
      refine r_nextD hC i0 i1 (e3.sy (e2.sy rS)) b3 (by omega) (fun γ gS gB gF gf gp g1 g2 => h1 rfl γ ?_ ?_ gF (e2.2.1.tr (e3.2.1.tr gp)) ?_)
      · rw [ta]; exact (gS.k (uk 11 (by decide)) (uk 12 (by decide))).k t11 t12
      · rw [ta, hC.m1 i0 i1 (by omega)]
        refine gB.b (t11.trans (uk 11 (by decide))) (pgu.tr pg).2.2 ?_
        rw [ty, j10, Tv]; rfl
      · have := gf.1 31 (by decide)
        omega
  · rw [u0, u1, ua] at nt
    have T2 := rS.2.2.2.2.f.2.1
    have Tv := rS.2.2.2.2.f.2.2.1
    have l7 := rB.1.2.1.2.2.1
    have l10 := rB.1.2.1.2.2.2.2.1
    have bad : wpX11_instruction_123 ρ Qr := by
      unfold wpX11_instruction_123
      exact s_fault ⟨by decide, h0 rfl _ (GG_34 rB.1) PR_fault⟩
    unfold wInt
    refine ⟨by omega, fun _ => bad, fun q => ⟨by omega, fun le => ?_, fun _ => bad⟩⟩
    have t2 := T2.mpr q
    exact absurd ⟨t2, by have := Tv t2; omega⟩ nt
theorem ztab {w : Int} (h0 : 6 ≤ w) (h1 : w < 36) : (zform w = 6 ∧ w = 6) ∨ (zform w = 7 ∧ ((w = 7 ∧ zcode w = 0) ∨ (w = 8 ∧ zcode w = 1) ∨ (9 ≤ w ∧ w ≤ 12 ∧ zcode w = w - 5))) ∨ (zform w = 8 ∧ ((w = 13 ∧ zcode w = 64) ∨ (w = 14 ∧ zcode w = 72))) ∨ (zform w = 9 ∧ w = 15 ∧ zcode w = 80) ∨ (zform w = 10 ∧ w = 16 ∧ zcode w = 88) ∨ (zform w = 11 ∧ ((w = 17 ∧ zcode w = 1233) ∨ (w = 18 ∧ zcode w = 1489) ∨ (w = 19 ∧ zcode w = 1015) ∨ (w = 20 ∧ zcode w = 1271) ∨ (w = 21 ∧ zcode w = 1783))) ∨ (zform w = 12 ∧ w = 22) ∨ (zform w = 13 ∧ 23 ≤ w ∧ w ≤ 29 ∧ zcode w = jcd (w + 12)) ∨ (zform w = 14 ∧ w = 30) ∨ (zform w = 15 ∧ w = 31) ∨ (zform w = 16 ∧ ((w = 32 ∧ zcode w = 195) ∨ (w = 33 ∧ zcode w = 203) ∨ (w = 35 ∧ zcode w = 244))) ∨ (zform w = 17 ∧ w = 34 ∧ zcode w = 205) := by
  have hc : w = 6 ∨ w = 7 ∨ w = 8 ∨ w = 9 ∨ w = 10 ∨ w = 11 ∨ w = 12 ∨ w = 13 ∨ w = 14 ∨ w = 15 ∨ w = 16 ∨ w = 17 ∨ w = 18 ∨ w = 19 ∨ w = 20 ∨ w = 21 ∨ w = 22 ∨ w = 23 ∨ w = 24 ∨ w = 25 ∨ w = 26 ∨ w = 27 ∨ w = 28 ∨ w = 29 ∨ w = 30 ∨ w = 31 ∨ w = 32 ∨ w = 33 ∨ w = 34 ∨ w = 35 := by omega
  rcases hc with rfl | rfl | rfl | rfl | rfl | rfl | rfl | rfl | rfl | rfl | rfl | rfl | rfl | rfl | rfl | rfl | rfl | rfl | rfl | rfl | rfl | rfl | rfl | rfl | rfl | rfl | rfl | rfl | rfl | rfl <;> first | exact Or.inl (by decide) | exact Or.inr (Or.inl (by decide)) | exact Or.inr (Or.inr (Or.inl (by decide))) | exact Or.inr (Or.inr (Or.inr (Or.inl (by decide)))) | exact Or.inr (Or.inr (Or.inr (Or.inr (Or.inl (by decide))))) | exact Or.inr (Or.inr (Or.inr (Or.inr (Or.inr (Or.inl (by decide)))))) | exact Or.inr (Or.inr (Or.inr (Or.inr (Or.inr (Or.inr (Or.inl (by decide))))))) | exact Or.inr (Or.inr (Or.inr (Or.inr (Or.inr (Or.inr (Or.inr (Or.inl (by decide)))))))) | exact Or.inr (Or.inr (Or.inr (Or.inr (Or.inr (Or.inr (Or.inr (Or.inr (Or.inl (by decide))))))))) | exact Or.inr (Or.inr (Or.inr (Or.inr (Or.inr (Or.inr (Or.inr (Or.inr (Or.inr (Or.inl (by decide)))))))))) | exact Or.inr (Or.inr (Or.inr (Or.inr (Or.inr (Or.inr (Or.inr (Or.inr (Or.inr (Or.inr (Or.inl (by decide))))))))))) | exact Or.inr (Or.inr (Or.inr (Or.inr (Or.inr (Or.inr (Or.inr (Or.inr (Or.inr (Or.inr (Or.inr (by decide)))))))))))
/-- the reference behind an instruction's word -/
def iC (σ σ10 : ZS) (Q : Int → ZS → Prop) : Prop := (-2147483648 ≤ (zI σ 0 9) ∧ (zI σ 0 9) ≤ 2147483647) ∧ (¬ (zI σ 0 9) = 18 → (24 < (zI σ 0 9) → (28 < (zI σ 0 9) → (33 < (zI σ 0 9) → (43 < (zI σ 0 9) → (¬ (zI σ 0 9) = 46 → (¬ (zI σ 0 9) = 44 → (¬ (zI σ 0 9) = 45 → wpX11_instruction_178 244 σ10 Q) ∧ ((zI σ 0 9) = 45 → wpX11_instruction_178 203 σ10 Q)) ∧ ((zI σ 0 9) = 44 → wpX11_instruction_178 195 σ10 Q)) ∧ ((zI σ 0 9) = 46 → (-2147483648 ≤ (zI σ10 0 7) ∧ (zI σ10 0 7) ≤ 2147483647) ∧ (¬ (zI σ10 0 7) = 2 → wpX11_instruction_123 σ10 Q) ∧ ((zI σ10 0 7) = 2 → (-2147483648 ≤ (zI σ10 0 10) ∧ (zI σ10 0 10) ≤ 2147483647) ∧ ((zI σ10 0 10) ≤ 255 → wpX11_octet 205 σ10 (fun (σ25 : ZS) => wpX11_octet (zI σ25 0 10) σ25 (fun (σ27 : ZS) => wpX11_next σ27 (fun (σ29 : ZS) => wpX11_instruction_181 σ29 Q)))) ∧ (¬ (zI σ10 0 10) ≤ 255 → wpX11_instruction_123 σ10 Q)))) ∧ (¬ 43 < (zI σ 0 9) → wpX11_jump (zI σ 0 9) (zI σ 0 6) σ10 (fun (x30 : Int) (σ31 : ZS) => (0 ≤ x30 ∧ x30 ≤ 1) ∧ Q x30 σ31))) ∧ (¬ 33 < (zI σ 0 9) → wpX11_single (zI σ 0 9) σ10 (fun (x33 : Int) (σ34 : ZS) => (0 ≤ x33 ∧ x33 ≤ 1) ∧ Q x33 σ34))) ∧ (¬ 28 < (zI σ 0 9) → wpX11_stack (zI σ 0 9) σ10 (fun (x36 : Int) (σ37 : ZS) => (0 ≤ x36 ∧ x36 ≤ 1) ∧ Q x36 σ37))) ∧ (¬ 24 < (zI σ 0 9) → (¬ (zI σ 0 9) = 19 → (¬ (zI σ 0 9) = 20 → wpX11_instruction_58 (((zI σ 0 9) - 21) + 4) σ10 Q) ∧ ((zI σ 0 9) = 20 → wpX11_instruction_58 1 σ10 Q)) ∧ ((zI σ 0 9) = 19 → wpX11_instruction_58 0 σ10 Q))) ∧ ((zI σ 0 9) = 18 → wpX11_mov σ10 (fun (x41 : Int) (σ42 : ZS) => (0 ≤ x41 ∧ x41 ≤ 1) ∧ Q x41 σ42))
theorem iC_mk {ρ γ : ZS} {Q : Int → ZS → Prop} (hc : 18 ≤ zI ρ 0 9 ∧ zI ρ 0 9 ≤ 47) (aM : zI ρ 0 9 = 18 → wpX11_mov γ (fun x σ' => (0 ≤ x ∧ x ≤ 1) ∧ Q x σ')) (aR : ∀ n : Int, (zI ρ 0 9 = 19 ∧ n = 0) ∨ (zI ρ 0 9 = 20 ∧ n = 1) ∨ (21 ≤ zI ρ 0 9 ∧ zI ρ 0 9 ≤ 24 ∧ n = zI ρ 0 9 - 17) → wpX11_reckon n γ (fun x σ' => (0 ≤ x ∧ x ≤ 1) ∧ Q x σ')) (aS : 25 ≤ zI ρ 0 9 → zI ρ 0 9 ≤ 28 → wpX11_stack (zI ρ 0 9) γ (fun x σ' => (0 ≤ x ∧ x ≤ 1) ∧ Q x σ')) (a1 : 29 ≤ zI ρ 0 9 → zI ρ 0 9 ≤ 33 → wpX11_single (zI ρ 0 9) γ (fun x σ' => (0 ≤ x ∧ x ≤ 1) ∧ Q x σ')) (aJ : 34 ≤ zI ρ 0 9 → zI ρ 0 9 ≤ 43 → wpX11_jump (zI ρ 0 9) (zI ρ 0 6) γ (fun x σ' => (0 ≤ x ∧ x ≤ 1) ∧ Q x σ')) (aP : ∀ b : Int, (zI ρ 0 9 = 44 ∧ b = 195) ∨ (zI ρ 0 9 = 45 ∧ b = 203) ∨ (zI ρ 0 9 = 47 ∧ b = 244) → wpX11_octet b γ (fun γ' => Q 1 γ')) (aI : zI ρ 0 9 = 46 → wInt γ Q) : iC ρ γ Q := by
  unfold iC wpX11_instruction_58 wpX11_instruction_178 wpX11_instruction_181
  refine ⟨by omega, fun n18 => ⟨fun g24 => ⟨fun g28 => ⟨fun g33 => ⟨fun g43 => ⟨fun n46 => ⟨fun n44 => ⟨fun n45 => aP 244 (by omega), fun y45 => aP 203 (by omega)⟩, fun y44 => aP 195 (by omega)⟩, fun y46 => aI y46⟩, fun l43 => aJ (by omega) (by omega)⟩, fun l33 => a1 (by omega) (by omega)⟩, fun l28 => aS (by omega) (by omega)⟩, fun l24 => ⟨fun n19 => ⟨fun n20 => aR _ (by omega), fun y20 => aR _ (by omega)⟩, fun y19 => aR _ (by omega)⟩⟩, fun y18 => aM y18⟩
theorem t_instruction {h : Int → Int} {L : Int} {E M : Int → Int} {σ : ZS} {Q : Int → ZS → Prop} (hP : PS σ) (hC : CT h L E M σ) (ho : zI σ 14 5 = 1) (hz : 2 * zI σ 13 7 ≤ zA σ 12 2 (zI σ 14 4)) (t6 : zA σ 12 0 (zI σ 14 4) = 6) (w0 : 6 ≤ zA σ 12 1 (zI σ 14 4)) (w1 : zA σ 12 1 (zI σ 14 4) < 36) (hQ : ∀ (x : Int) (τ : ZS), CSi σ τ x → TSi h L E M σ τ x wpX11_instruction → Q x τ) : wpX8_instruction (zform (zA σ 12 1 (zI σ 14 4))) (zcode (zA σ 12 1 (zI σ 14 4))) σ Q := by
  have on : PG σ (zsI σ 14 4 (zI σ 14 4 + 1)) := (PG.rf hP).on (by omega)
  have oo : zI (zsI σ 14 4 (zI σ 14 4 + 1)) 14 5 = 1 := ho
  have oa : 1 ≤ zI (zsI σ 14 4 (zI σ 14 4 + 1)) 14 4 := by
    rw [zI_s]
    have := hP.2.2.1
    omega
  have pb := hP.tk.2.2.1
  have hC1 : CT h L E M (zsI σ 14 4 (zI σ 14 4 + 1)) := hC.k (ob_i (by decide)) (ob_i (by decide))
  have hz1 : zI (zsI σ 14 4 (zI σ 14 4 + 1)) 13 7 ≤ 242 := by
    show zI σ 13 7 ≤ 242
    omega
  have gen : ∀ (W : ZS → (Int → ZS → Prop) → Prop), (∀ (ρ γ : ZS) (Qr : Int → ZS → Prop), GG ρ → GG γ → zI ρ 0 9 = zA σ 12 1 (zI σ 14 4) + 12 → zI ρ 0 6 = zA σ 12 2 (zI σ 14 4) → (∀ Qr' : Int → ZS → Prop, (∀ (y : Int) (ρ' : ZS), 0 ≤ y ∧ y ≤ 1 → Qr y ρ' → Qr' y ρ') → W γ Qr') → iC ρ γ Qr) → ∀ (x : Int) (τ : ZS), CSt (zsI σ 14 4 (zI σ 14 4 + 1)) τ x → TSt h L E M (zsI σ 14 4 (zI σ 14 4 + 1)) τ x W → Q x τ :=
    fun W hV x τ c t => hQ x τ (CSt.i hP hC t6 hz c) (TSt.i (C := iC) hP hC t6 t hV)
  have gen' : ∀ (W : ZS → (Int → ZS → Prop) → Prop), (∀ (ρ γ : ZS) (Qr : Int → ZS → Prop), GG ρ → GG γ → zI ρ 0 9 = zA σ 12 1 (zI σ 14 4) + 12 → zI ρ 0 6 = zA σ 12 2 (zI σ 14 4) → (∀ Qr' : Int → ZS → Prop, (∀ (y : Int) (ρ' : ZS), 0 ≤ y ∧ y ≤ 1 → Qr y ρ' → Qr' y ρ') → W γ Qr') → iC ρ γ Qr) → ∀ (x : Int) (τ : ZS), CSt (zsI σ 14 4 (zI σ 14 4 + 1)) τ x → TSt h L E M (zsI σ 14 4 (zI σ 14 4 + 1)) τ x W → (0 ≤ x ∧ x ≤ 1) ∧ Q x τ :=
    fun W hV x τ c t => ⟨c.1, gen W hV x τ c t⟩
  unfold wpX8_instruction wpX8_instruction_174
  rcases ztab w0 w1 with ⟨f, w⟩ | ⟨f, w⟩ | ⟨f, w⟩ | ⟨f, w, c⟩ | ⟨f, w, c⟩ | ⟨f, w⟩ | ⟨f, w⟩ | ⟨f, wa, wb, c⟩ | ⟨f, w⟩ | ⟨f, w⟩ | ⟨f, w⟩ | ⟨f, w, c⟩
  · rw [f]
    exact ⟨by decide, fun _ => t_mov on.1 hC1 oo hz1 (gen' _ (fun ρ γ Qr _ _ e9 e6 k => iC_mk (by omega) (fun _ => k _ (fun y ρ' hy q => ⟨hy, q⟩)) (fun n q => by omega) (fun q => by omega) (fun q => by omega) (fun q => by omega) (fun b q => by omega) (fun q => by omega))), fun q => absurd rfl q⟩
  · rw [f]
    refine ⟨by decide, fun q => absurd q (by decide), fun _ => ⟨fun _ => t_arithmetic on.1 hC1 oo hz1 (by omega) (gen' _ (fun ρ γ Qr _ _ e9 e6 k => iC_mk (by omega) (fun q => by omega) (fun n q => ?_) (fun q => by omega) (fun q => by omega) (fun q => by omega) (fun b q => by omega) (fun q => by omega))), fun q => absurd rfl q⟩⟩
    rw [show n = zcode (zA σ 12 1 (zI σ 14 4)) by omega]
    exact k _ (fun y ρ' hy q => ⟨hy, q⟩)
  · rw [f]
    refine ⟨by decide, fun q => absurd q (by decide), fun _ => ⟨fun q => absurd q (by decide), fun _ => ⟨fun _ => t_onRegister (c := zA σ 12 1 (zI σ 14 4) + 12) (b := 1) on.1 hC1 oo hz1 (by omega) (gen' _ (fun ρ γ Qr _ _ e9 e6 k => iC_mk (by omega) (fun q => by omega) (fun n q => by omega) (fun _ _ => ?_) (fun q => by omega) (fun q => by omega) (fun b q => by omega) (fun q => by omega))), fun q => absurd rfl q⟩⟩⟩
    rw [e9]
    exact k _ (fun y ρ' hy q => ⟨hy, q⟩)
  · rw [f]
    refine ⟨by decide, fun q => absurd q (by decide), fun _ => ⟨fun q => absurd q (by decide), fun _ => ⟨fun q => absurd q (by decide), fun _ => ⟨fun _ => t_onRegister (c := zA σ 12 1 (zI σ 14 4) + 12) (b := 3) on.1 hC1 oo hz1 (by omega) (gen' _ (fun ρ γ Qr _ _ e9 e6 k => iC_mk (by omega) (fun q => by omega) (fun n q => by omega) (fun _ _ => ?_) (fun q => by omega) (fun q => by omega) (fun b q => by omega) (fun q => by omega))), fun q => absurd rfl q⟩⟩⟩⟩
    rw [e9]
    exact k _ (fun y ρ' hy q => ⟨hy, q⟩)
  · rw [f]
    refine ⟨by decide, fun q => absurd q (by decide), fun _ => ⟨fun q => absurd q (by decide), fun _ => ⟨fun q => absurd q (by decide), fun _ => ⟨fun q => absurd q (by decide), fun _ => ⟨fun _ => t_onRegister (c := zA σ 12 1 (zI σ 14 4) + 12) (b := 5) on.1 hC1 oo hz1 (by omega) (gen' _ (fun ρ γ Qr _ _ e9 e6 k => iC_mk (by omega) (fun q => by omega) (fun n q => by omega) (fun _ _ => ?_) (fun q => by omega) (fun q => by omega) (fun b q => by omega) (fun q => by omega))), fun q => absurd rfl q⟩⟩⟩⟩⟩
    rw [e9]
    exact k _ (fun y ρ' hy q => ⟨hy, q⟩)
  · rw [f]
    refine ⟨by decide, fun q => absurd q (by decide), fun _ => ⟨fun q => absurd q (by decide), fun _ => ⟨fun q => absurd q (by decide), fun _ => ⟨fun q => absurd q (by decide), fun _ => ⟨fun q => absurd q (by decide), fun _ => ⟨fun _ => ⟨by omega, t_single (c := zA σ 12 1 (zI σ 14 4) + 12) on.1 hC1 oo hz1 (by omega) (gen' _ (fun ρ γ Qr _ _ e9 e6 k => iC_mk (by omega) (fun q => by omega) (fun n q => by omega) (fun q => by omega) (fun _ _ => ?_) (fun q => by omega) (fun b q => by omega) (fun q => by omega)))⟩, fun q => absurd rfl q⟩⟩⟩⟩⟩⟩
    rw [e9]
    exact k _ (fun y ρ' hy q => ⟨hy, q⟩)
  · rw [f]
    refine ⟨by decide, fun q => absurd q (by decide), fun _ => ⟨fun q => absurd q (by decide), fun _ => ⟨fun q => absurd q (by decide), fun _ => ⟨fun q => absurd q (by decide), fun _ => ⟨fun q => absurd q (by decide), fun _ => ⟨fun q => absurd q (by decide), fun _ => ⟨fun _ => t_jump (c := zA σ 12 1 (zI σ 14 4) + 12) (pp := zA σ 12 2 (zI σ 14 4)) on.1 hC1 oo hz1 (by omega) (by omega) oa (gen' _ (fun ρ γ Qr _ _ e9 e6 k => iC_mk (by omega) (fun q => by omega) (fun n q => by omega) (fun q => by omega) (fun q => by omega) (fun _ _ => ?_) (fun b q => by omega) (fun q => by omega))), fun q => absurd rfl q⟩⟩⟩⟩⟩⟩⟩
    rw [e9, e6]
    exact k _ (fun y ρ' hy q => ⟨hy, q⟩)
  · rw [f]
    refine ⟨by decide, fun q => absurd q (by decide), fun _ => ⟨fun q => absurd q (by decide), fun _ => ⟨fun q => absurd q (by decide), fun _ => ⟨fun q => absurd q (by decide), fun _ => ⟨fun q => absurd q (by decide), fun _ => ⟨fun q => absurd q (by decide), fun _ => ⟨fun q => absurd q (by decide), fun _ => ⟨fun _ => t_jump (c := zA σ 12 1 (zI σ 14 4) + 12) (pp := zA σ 12 2 (zI σ 14 4)) on.1 hC1 oo hz1 (Or.inr (Or.inr (Or.inr ⟨by omega, by omega, rfl, c⟩))) (by omega) oa (gen' _ (fun ρ γ Qr _ _ e9 e6 k => iC_mk (by omega) (fun q => by omega) (fun n q => by omega) (fun q => by omega) (fun q => by omega) (fun _ _ => ?_) (fun b q => by omega) (fun q => by omega))), fun q => absurd rfl q⟩⟩⟩⟩⟩⟩⟩⟩
    rw [e9, e6]
    exact k _ (fun y ρ' hy q => ⟨hy, q⟩)
  · rw [f]
    refine ⟨by decide, fun q => absurd q (by decide), fun _ => ⟨fun q => absurd q (by decide), fun _ => ⟨fun q => absurd q (by decide), fun _ => ⟨fun q => absurd q (by decide), fun _ => ⟨fun q => absurd q (by decide), fun _ => ⟨fun q => absurd q (by decide), fun _ => ⟨fun q => absurd q (by decide), fun _ => ⟨fun q => absurd q (by decide), fun _ => ⟨fun _ => t_jump (c := zA σ 12 1 (zI σ 14 4) + 12) (pp := zA σ 12 2 (zI σ 14 4)) on.1 hC1 oo hz1 (by omega) (by omega) oa (gen' _ (fun ρ γ Qr _ _ e9 e6 k => iC_mk (by omega) (fun q => by omega) (fun n q => by omega) (fun q => by omega) (fun q => by omega) (fun _ _ => ?_) (fun b q => by omega) (fun q => by omega))), fun q => absurd rfl q⟩⟩⟩⟩⟩⟩⟩⟩⟩
    rw [e9, e6]
    exact k _ (fun y ρ' hy q => ⟨hy, q⟩)
  · rw [f]
    refine ⟨by decide, fun q => absurd q (by decide), fun _ => ⟨fun q => absurd q (by decide), fun _ => ⟨fun q => absurd q (by decide), fun _ => ⟨fun q => absurd q (by decide), fun _ => ⟨fun q => absurd q (by decide), fun _ => ⟨fun q => absurd q (by decide), fun _ => ⟨fun q => absurd q (by decide), fun _ => ⟨fun q => absurd q (by decide), fun _ => ⟨fun q => absurd q (by decide), fun _ => ⟨fun _ => t_jump (c := zA σ 12 1 (zI σ 14 4) + 12) (pp := zA σ 12 2 (zI σ 14 4)) on.1 hC1 oo hz1 (by omega) (by omega) oa (gen' _ (fun ρ γ Qr _ _ e9 e6 k => iC_mk (by omega) (fun q => by omega) (fun n q => by omega) (fun q => by omega) (fun q => by omega) (fun _ _ => ?_) (fun b q => by omega) (fun q => by omega))), fun q => absurd rfl q⟩⟩⟩⟩⟩⟩⟩⟩⟩⟩
    rw [e9, e6]
    exact k _ (fun y ρ' hy q => ⟨hy, q⟩)
  · rw [f]
    have pl : wpX0_addByte (zcode (zA σ 12 1 (zI σ 14 4))) (zsI σ 14 4 (zI σ 14 4 + 1)) (fun σ2 => Q 1 σ2) := by
      refine t_plain on.1 oo hz1 (by omega) (gen _ (fun ρ γ Qr _ _ e9 e6 k => iC_mk (by omega) (fun q => by omega) (fun n q => by omega) (fun q => by omega) (fun q => by omega) (fun q => by omega) (fun b q => ?_) (fun q => by omega)) 1)
      rw [show b = zcode (zA σ 12 1 (zI σ 14 4)) by omega]
      exact k Qr (fun y ρ' hy q => q)
    exact ⟨by decide, fun q => absurd q (by decide), fun _ => ⟨fun q => absurd q (by decide), fun _ => ⟨fun q => absurd q (by decide), fun _ => ⟨fun q => absurd q (by decide), fun _ => ⟨fun q => absurd q (by decide), fun _ => ⟨fun q => absurd q (by decide), fun _ => ⟨fun q => absurd q (by decide), fun _ => ⟨fun q => absurd q (by decide), fun _ => ⟨fun q => absurd q (by decide), fun _ => ⟨fun q => absurd q (by decide), fun _ => ⟨fun _ => pl, fun q => absurd rfl q⟩⟩⟩⟩⟩⟩⟩⟩⟩⟩⟩
  · rw [f, c]
    exact ⟨by decide, fun q => absurd q (by decide), fun _ => ⟨fun q => absurd q (by decide), fun _ => ⟨fun q => absurd q (by decide), fun _ => ⟨fun q => absurd q (by decide), fun _ => ⟨fun q => absurd q (by decide), fun _ => ⟨fun q => absurd q (by decide), fun _ => ⟨fun q => absurd q (by decide), fun _ => ⟨fun q => absurd q (by decide), fun _ => ⟨fun q => absurd q (by decide), fun _ => ⟨fun q => absurd q (by decide), fun _ => ⟨fun q => absurd q (by decide), fun _ => ⟨fun _ => t_int on.1 hC1 oo hz1 (gen' _ (fun ρ γ Qr _ _ e9 e6 k => iC_mk (by omega) (fun q => by omega) (fun n q => by omega) (fun q => by omega) (fun q => by omega) (fun q => by omega) (fun b q => by omega) (fun _ => k Qr (fun y ρ' hy q => q)))), fun q => absurd rfl q⟩⟩⟩⟩⟩⟩⟩⟩⟩⟩⟩⟩
