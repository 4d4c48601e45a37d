/-! X: operands on both sides -/
theorem CT.pk {h : Int → Int} {L i : Int} {E M : Int → Int} {σ : ZS} (k : CT h L E M σ) (i0 : 0 ≤ i) : ∀ n : Nat, i + n < zI σ 12 3 → zA σ 12 2 i + n ≤ zA σ 12 2 (i + n)
  | 0, _ => by rw [show i + ((0 : Nat) : Int) = i by omega]; omega
  | n + 1, hn => by
    have ih := k.pk i0 n (by omega)
    have := (k.pl (i := i + n) (by omega) (by omega) (k.1.2.2.2.2.1 (i + n) (by omega) (by omega))).1
    rw [show i + ((n + 1 : Nat) : Int) = i + n + 1 by omega]
    omega
/-- an operand on both sides -/
def OR (τ : ZS) (g : Int) (ρ : ZS) : Prop := (zI τ g 0 = 1 ∧ zI ρ 0 37 = 0 ∧ zI ρ 0 38 = zI τ g 1 ∧ 0 ≤ zI τ g 1 ∧ zI τ g 1 < 8 ∧ zI τ g 3 = -1) ∨ (zI τ g 0 = 8 ∧ zI ρ 0 37 = 1 ∧ zI ρ 0 38 = zI τ g 1 ∧ 0 ≤ zI τ g 1 ∧ zI τ g 1 < 4 ∧ zI τ g 3 = -1) ∨ (zI τ g 0 = 2 ∧ MmR τ g ρ ∧ 0 ≤ zI τ g 2 ∧ zI τ g 2 < 65536 ∧ zI τ g 5 = 0) ∨ (zI τ g 0 = 4 ∧ ((zI τ g 3 = -1 ∧ zI ρ 0 37 = 3 ∧ zI ρ 0 38 = zI τ g 2) ∨ (0 ≤ zI τ g 3 ∧ zI τ g 2 = 0 ∧ zI ρ 0 39 = zI τ g 3 ∧ ((zI τ g 5 = 0 ∧ zI ρ 0 37 = 4) ∨ (zI τ g 5 = 1 ∧ zI ρ 0 37 = 5)))))
theorem x_brackets {h : Int → Int} {L g : Int} {E M : Int → Int} {σ : ZS} {Q : Int → ZS → Prop} (hg : 5 ≤ g ∧ g ≤ 6) (hP : PS σ) (hC : CT h L E M σ) (hn : zA σ 12 0 (zI σ 14 4) ≠ 0)
    (h1 : ∀ τ : ZS, OG g σ τ → OPI τ g → zI τ g 0 = 2 → zI σ 14 4 + 3 ≤ zI τ 14 4 → (∀ (ρ0 ρ : ZS) (p0 : List Int) (Qr : Int → ZS → Prop), SY h L E σ (zI σ 14 4 + 1) ρ → RB σ ρ (M (zI σ 14 4 + 1)) p0 → Fresh ρ → PR ρ0 ρ → zI ρ 0 31 = zI ρ0 0 31 → zI ρ0 0 6 ≤ zI ρ 0 6 → (∀ ρ' : ZS, SY h L E τ (zI τ 14 4) ρ' → RB τ ρ' (M (zI τ 14 4)) (p0 ++ nm (zI τ g 3)) → Opd ρ0 1 ρ' → OR τ g ρ' → Qr 1 ρ') → wpX11_memoryOperand ρ Qr) → Q 1 τ)
    (h0 : ∀ τ : ZS, OG g σ τ → (∀ (ρ0 ρ : ZS) (p0 : List Int) (Qr : Int → ZS → Prop), SY h L E σ (zI σ 14 4 + 1) ρ → RB σ ρ (M (zI σ 14 4 + 1)) p0 → Fresh ρ → PR ρ0 ρ → zI ρ 0 31 = zI ρ0 0 31 → zI ρ0 0 6 ≤ zI ρ 0 6 → (∀ ρ' : ZS, GG ρ' → PR ρ0 ρ' → Qr 0 ρ') → wpX11_memoryOperand ρ Qr) → Q 0 τ) : wpX8_brackets g σ Q := by
  unfold wpX8_brackets
  refine ⟨hg, x_clear hg hP (by decide) (fun τ0 og0 oi0 ff e14 => ?_)⟩
  obtain ⟨f0, f2, f3, f5, f6, f7⟩ := ff
  have a0 : zI τ0 14 4 = zI σ 14 4 := ob_I e14 4
  have hn0 : zA τ0 12 0 (zI τ0 14 4) ≠ 0 := by
    rw [og0.2.1.A (m_no (by omega) (by decide)) 0, a0]; exact hn
  have og1 := og0.on hn0
  have sf : ∀ f : Nat, zI (zsI τ0 14 4 (zI τ0 14 4 + 1)) g f = zI τ0 g f := fun f => zI_g (by omega)
  have a1 : zI (zsI τ0 14 4 (zI τ0 14 4 + 1)) 14 4 = zI σ 14 4 + 1 := by rw [zI_s, a0]
  have lv1 := og1.lv hg
  have hC1 := hC.k lv1.1 lv1.2.1
  -- where the reference's loop begins
  have start : ∀ (ρ0 ρ : ZS) (p0 : List Int), SY h L E σ (zI σ 14 4 + 1) ρ → RB σ ρ (M (zI σ 14 4 + 1)) p0 → Fresh ρ → PR ρ0 ρ → zI ρ 0 31 = zI ρ0 0 31 → zI ρ0 0 6 ≤ zI ρ 0 6 → MmT h L E M g p0 ρ0 (zsI τ0 14 4 (zI τ0 14 4 + 1)) (zsI (zsI (zsI (zsI (zsI ρ 0 37 2) 0 38 0) 0 39 (-1)) 0 41 (-1)) 0 42 (-1)) := by
    intro ρ0 ρ p0 rS rB rF rp r31 r6
    have bf : fr [37, 38, 39, 41, 42] [] ρ (zsI (zsI (zsI (zsI (zsI ρ 0 37 2) 0 38 0) 0 39 (-1)) 0 41 (-1)) 0 42 (-1)) := ((((fr.rf.ti (by decide)).ti (by decide)).ti (by decide)).ti (by decide)).ti (by decide)
    have bG : GG (zsI (zsI (zsI (zsI (zsI ρ 0 37 2) 0 38 0) 0 39 (-1)) 0 41 (-1)) 0 42 (-1)) := GG_ops rB.1 (by decide) (by decide) (by decide) (by decide) (by decide)
    have n0 : nm (zI (zsI τ0 14 4 (zI τ0 14 4 + 1)) g 3) = [] := by rw [sf, f3]; rfl
    refine ⟨?_, ?_, rF, ⟨rfl, ?_, ?_, ?_, ?_⟩, ⟨fun _ q => absurd (show (0 : Int) ≤ -1 from q) (by decide), fun q => absurd (show (4 : Int) ≤ 2 from q) (by decide)⟩, rp.tr PR_ops, r31, r6⟩
    · rw [a1]
      exact (rS.fr bf (by decide) (by decide) (by decide) (by decide) (by decide) (by decide) (by decide) (by decide)).k lv1.1 lv1.2.1
    · rw [a1, n0, List.append_nil]
      exact (rB.fr bG bf (by decide) (by decide) (by decide) (by decide) (by decide) (by decide) (by decide)).k lv1.1 lv1.2.2.1 lv1.2.2.2
    · rw [sf, f2]; rfl
    · rw [sf, f3]; rfl
    · rw [sf, f6]; exact Or.inl ⟨rfl, rfl⟩
    · rw [sf, f7]; exact Or.inl ⟨rfl, rfl⟩
  refine x_part hg og1.1 (oi0.1.k (ob_i (by decide)) (ob_i (by omega))) (fun τ2 og2 ob2 at2 ps2 => ⟨by decide, fun _ => ?_, fun q => absurd q (by decide)⟩) (fun pf => ⟨by decide, fun q => absurd rfl q, fun _ => h0 _ og1 (fun ρ0 ρ p0 Qr rS rB rF rp r31 r6 rQ => ?_)⟩)
  rotate_left
  · unfold wpX11_memoryOperand wpX11_memoryOperand_29
    intro P hPP
    exact r_segA0 pf (start ρ0 ρ p0 rS rB rF rp r31 r6) hPP rQ
  have lv2 := og2.lv hg
  -- what the reference owes at a head of the class's loop
  have f117 : ∀ τ : ZS, OG g σ τ → OPB τ g → (zI τ g 0 = 2 ∧ zI τ g 5 = 0) → zI σ 14 4 + 2 ≤ zI τ 14 4 → zA τ 12 0 (zI τ 14 4) = 93 → (∀ (ρ0 : ZS) (p0 : List Int) (Qr : Int → ZS → Prop) (K : Int → Int → ZS → Prop), (∀ (a b : Int) (υ : ZS), wpbX11_memoryOperand_29 K a b υ Qr → K a b υ) → (∀ ρ' : ZS, MmT h L E M g p0 ρ0 τ ρ' → G97 K Qr ρ') → ∀ ρ : ZS, MmT h L E M g p0 ρ0 (zsI τ0 14 4 (zI τ0 14 4 + 1)) ρ → K 0 1 ρ) → wpX8_brackets_117 g τ Q := by
    intro τ og oo k0 ha t93 tr
    have lv := og.lv hg
    have hCτ := hC.k lv.1 lv.2.1
    unfold wpX8_brackets_117
    have og' := og.g (f := 2) (v := zI τ g 2 % 65536) hg
    have oi' : OPI (zsI τ g 2 (zI τ g 2 % 65536)) g := ⟨oo.n2 hg, by rw [zI_s]; omega⟩
    have t93' : zA (zsI τ g 2 (zI τ g 2 % 65536)) 12 0 (zI (zsI τ g 2 (zI τ g 2 % 65536)) 14 4) = 93 := by
      rw [zI_g (show (14 : Int) ≠ g by omega)]; exact t93
    refine ⟨hg, c_take og'.1 (by decide) (fun e p => ⟨by decide, ?_⟩) (fun n => absurd t93' n)⟩
    have og3 := og'.on (by omega)
    have e4 : zI (zsI (zsI τ g 2 (zI τ g 2 % 65536)) 14 4 (zI (zsI τ g 2 (zI τ g 2 % 65536)) 14 4 + 1)) 14 4 = zI τ 14 4 + 1 := by
      rw [zI_s, zI_g (show (14 : Int) ≠ g by omega)]
    have ef : ∀ f : Nat, f ≠ 2 → zI (zsI (zsI τ g 2 (zI τ g 2 % 65536)) 14 4 (zI (zsI τ g 2 (zI τ g 2 % 65536)) 14 4 + 1)) g f = zI τ g f := fun f hf => by
      rw [zI_g (show g ≠ 14 by omega), zI_f hf]
    have e2 : zI (zsI (zsI τ g 2 (zI τ g 2 % 65536)) 14 4 (zI (zsI τ g 2 (zI τ g 2 % 65536)) 14 4 + 1)) g 2 = zI τ g 2 % 65536 := by
      rw [zI_g (show g ≠ 14 by omega), zI_s]
    refine h1 _ og3 (oi'.k (ob_i (by decide)) (ob_i (by omega))) (by rw [ef 0 (by decide)]; exact k0.1) (by rw [e4]; omega) (fun ρ0 ρ p0 Qr rS rB rF rp r31 r6 rQ => ?_)
    unfold wpX11_memoryOperand wpX11_memoryOperand_29
    intro P hPP
    refine tr ρ0 p0 Qr P hPP (fun ρ' hm => ?_) _ (start ρ0 ρ p0 rS rB rF rp r31 r6)
    refine r_segD hCτ og.1 hm (by omega) (by omega) hPP (fun _ ρ'' sS sB sO sM => ?_) (fun n => absurd t93 n)
    have lv3 := og3.lv hg
    have w11 := lv3.1.trans lv.1.symm
    have w12 := lv3.2.1.trans lv.2.1.symm
    have w13 := lv3.2.2.1.trans lv.2.2.1.symm
    have w5 := lv3.2.2.2.trans lv.2.2.2.symm
    refine rQ ρ'' ?_ ?_ sO (Or.inr (Or.inr (Or.inl ⟨by rw [ef 0 (by decide)]; exact k0.1, ?_, by rw [e2]; omega, by rw [e2]; omega, by rw [ef 5 (by decide)]; exact k0.2⟩)))
    · rw [e4]; exact sS.k w11 w12
    · rw [e4, ef 3 (by decide)]; exact sB.k w11 w13 w5
    · obtain ⟨m1, m2, m3, m4, m5⟩ := sM
      exact ⟨m1, by rw [e2, m2]; omega, by rw [ef 3 (by decide)]; exact m3, by rw [ef 6 (by decide)]; exact m4, by rw [ef 7 (by decide)]; exact m5⟩
  unfold wpX8_brackets_27
  refine lfp1_ind (fun v _ => (481 - v).toNat) (fun v τ => OG g σ τ ∧ OPB τ g ∧ (0 ≤ v ∧ v ≤ 481) ∧ (zI τ g 0 = 2 ∧ zI τ g 5 = 0) ∧ zI τ 14 4 = zI σ 14 4 + 2 + 2 * v ∧ (∀ (ρ0 : ZS) (p0 : List Int) (Qr : Int → ZS → Prop) (K : Int → Int → ZS → Prop), (∀ (a b : Int) (υ : ZS), wpbX11_memoryOperand_29 K a b υ Qr → K a b υ) → (∀ ρ' : ZS, MmT h L E M g p0 ρ0 τ ρ' → G97 K Qr ρ') → ∀ ρ : ZS, MmT h L E M g p0 ρ0 (zsI τ0 14 4 (zI τ0 14 4 + 1)) ρ → K 0 1 ρ)) (fun K v τ hI ih => ?_) ⟨og1.tr og2, ob2, by decide, ?_, ?_, fun ρ0 p0 Qr K hK hG ρ hm => ?_⟩
  rotate_left
  · rw [ps2.1.1, ps2.1.2, sf, sf]; exact ⟨f0, f5⟩
  · rw [at2, a1]; omega
  · exact r_segA hC1 og1.1 lv2 at2 ps2 hm hK (fun ρ' m _ => hG ρ' m)
  obtain ⟨og, oo, v0, k0, ha, tr⟩ := hI
  have hz := og.1.1.1
  have ht := og.1.tk.1
  have hat := og.1.2.2.1
  have i0 := hP.2.2.1.1
  have lv := og.lv hg
  have hCτ := hC.k lv.1 lv.2.1
  -- a failure of the class is one of the reference
  have bad : ∀ υ : ZS, OG g σ υ → (∀ (ρ0 : ZS) (p0 : List Int) (Qr : Int → ZS → Prop) (K : Int → Int → ZS → Prop), (∀ (a b : Int) (υ : ZS), wpbX11_memoryOperand_29 K a b υ Qr → K a b υ) → (∀ ρ' : ZS, GG ρ' → PR ρ0 ρ' → Qr 0 ρ') → ∀ ρ' : ZS, MmT h L E M g p0 ρ0 τ ρ' → G97 K Qr ρ') → Q 0 υ := by
    intro υ ug hh
    refine h0 υ ug (fun ρ0 ρ p0 Qr rS rB rF rp r31 r6 rQ => ?_)
    unfold wpX11_memoryOperand wpX11_memoryOperand_29
    intro P hPP
    exact tr ρ0 p0 Qr P hPP (hh ρ0 p0 Qr P hPP rQ) _ (start ρ0 ρ p0 rS rB rF rp r31 r6)
  unfold wpbX8_brackets_27 wpX8_brackets_109 wpX8_brackets_111
  refine ⟨by omega, by omega, fun q => by omega, fun a => c_type og.1 ⟨by omega, fun t93 => f117 τ og oo k0 (by omega) t93 tr, fun n93 => c_take og.1 (by decide) (fun e45 p => ⟨by decide, fun q => absurd q (by decide), fun _ => ?_⟩) (fun n45 => ⟨by decide, fun _ => c_take og.1 (by decide) (fun e43 p => ⟨by decide, fun q => absurd q (by decide), fun _ => ?_⟩) (fun n43 => ⟨by decide, fun _ => bad _ og (fun ρ0 p0 Qr K hK rQ ρ' hm => r_segD hCτ og.1 hm n43 n45 hK (fun t => absurd t n93) (fun _ => rQ)), fun q => absurd rfl q⟩), fun q => absurd rfl q⟩)⟩⟩
  · have og' := og.on (show zA τ 12 0 (zI τ 14 4) ≠ 0 by omega)
    have oo' : OPB (zsI τ 14 4 (zI τ 14 4 + 1)) g := oo.k (ob_i (by decide)) (ob_i (by omega))
    have s1 : ∀ f : Nat, zI (zsI τ 14 4 (zI τ 14 4 + 1)) g f = zI τ g f := fun f => zI_g (by omega)
    have lv' : LV g τ (zsI τ 14 4 (zI τ 14 4 + 1)) := ⟨ob_i (by decide), ob_i (by decide), ob_i (by decide), zI_f (by decide)⟩
    have hC' := hCτ.k lv'.1 lv'.2.1
    have ht' := og'.1.tk.1
    refine c_type og'.1 ⟨by omega, fun e2 => ⟨hg, c_value og'.1 ?_⟩, fun n2 => bad _ og' (fun ρ0 p0 Qr K hK rQ ρ' hm => r_segC hCτ og.1 lv' zI_s (s1 2) (s1 3) (s1 6) (s1 7) hm 1 (Or.inr ⟨rfl, e45⟩) (fun ρ'' hm' => r_segB0 n2 hm' hK rQ))⟩
    have og5 := og'.g (f := 2) (v := zI (zsI τ 14 4 (zI τ 14 4 + 1)) g 2 - zA (zsI τ 14 4 (zI τ 14 4 + 1)) 12 1 (zI (zsI τ 14 4 (zI τ 14 4 + 1)) 14 4)) hg
    have r := og5.on (by
      rw [zI_g (show (14 : Int) ≠ g by omega)]
      show zA (zsI τ 14 4 (zI τ 14 4 + 1)) 12 0 (zI (zsI τ 14 4 (zI τ 14 4 + 1)) 14 4) ≠ 0
      omega)
    rw [zI_g (show (14 : Int) ≠ g by omega)] at r
    have sx : ∀ (υ : ZS) (w y : Int) (f : Nat), f ≠ 2 → zI (zsI (zsI υ g 2 w) 14 4 y) g f = zI υ g f := fun υ w y f hf => by
      rw [zI_g (show g ≠ 14 by omega), zI_f hf]
    refine ih _ _ ⟨r, (oo'.n2 hg).k (ob_i (by decide)) (ob_i (by omega)), by omega, ?_, ?_, fun ρ0 p0 Qr K hK hG ρ hm => tr ρ0 p0 Qr K hK (fun ρ' hm' => r_segC hCτ og.1 lv' zI_s (s1 2) (s1 3) (s1 6) (s1 7) hm' 1 (Or.inr ⟨rfl, e45⟩) (fun ρ'' hm2 => r_segB hC' og'.1 ?_ ?_ e2 ?_ ?_ ?_ ?_ hm2 hK (fun ρ3 m _ => hG ρ3 m))) ρ hm⟩ (by omega)
    · rw [sx _ _ _ 0 (by decide), sx _ _ _ 5 (by decide), s1, s1]; exact k0
    · rw [zI_s, zI_s, ha]; omega
    · exact ⟨(ob_i (by decide)).trans (ob_i (by omega)), (ob_i (by decide)).trans (ob_i (by omega)), (ob_i (by decide)).trans (ob_i (by omega)), (zI_f (by decide)).trans (zI_g (by omega))⟩
    · rw [zI_s]
    · rw [zI_g (show g ≠ 14 by omega), zI_s]
    · exact sx _ _ _ 3 (by decide)
    · exact sx _ _ _ 6 (by decide)
    · exact sx _ _ _ 7 (by decide)
  · have og' := og.on (show zA τ 12 0 (zI τ 14 4) ≠ 0 by omega)
    have oo' : OPB (zsI τ 14 4 (zI τ 14 4 + 1)) g := oo.k (ob_i (by decide)) (ob_i (by omega))
    have s1 : ∀ f : Nat, zI (zsI τ 14 4 (zI τ 14 4 + 1)) g f = zI τ g f := fun f => zI_g (by omega)
    have lv' : LV g τ (zsI τ 14 4 (zI τ 14 4 + 1)) := ⟨ob_i (by decide), ob_i (by decide), ob_i (by decide), zI_f (by decide)⟩
    have hC' := hCτ.k lv'.1 lv'.2.1
    refine x_part hg og'.1 oo' (fun υ ug uo ua up => ⟨by decide, fun _ => ih _ _ ⟨og'.tr ug, uo, by omega, ?_, ?_, fun ρ0 p0 Qr K hK hG ρ hm => tr ρ0 p0 Qr K hK (fun ρ' hm' => r_segC hCτ og.1 lv' zI_s (s1 2) (s1 3) (s1 6) (s1 7) hm' 0 (Or.inl ⟨rfl, e43⟩) (fun ρ'' hm2 => r_segA hC' og'.1 (ug.lv hg) ua up hm2 hK (fun ρ3 m _ => hG ρ3 m))) ρ hm⟩ (by omega), fun q => absurd q (by decide)⟩) (fun pf => ⟨by decide, fun q => absurd rfl q, fun _ => bad _ og' (fun ρ0 p0 Qr K hK rQ ρ' hm => r_segC hCτ og.1 lv' zI_s (s1 2) (s1 3) (s1 6) (s1 7) hm 0 (Or.inl ⟨rfl, e43⟩) (fun ρ'' hm' => r_segA0 pf hm' hK rQ))⟩)
    · rw [up.1.1, up.1.2, s1, s1]; exact k0
    · rw [ua, zI_s, ha]; omega
