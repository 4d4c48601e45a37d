/-! X: mov on both sides -/
theorem r_octS {σ ρ : ZS} {d : YD} {m b : Int} {pend : List Int} {Q : ZS → Prop} (hB : RBd σ d ρ m pend) (hs : zI ρ 0 33 = 1) (hp : zI ρ 0 31 + 1 ≤ 2 * zI ρ 0 6 + 8) (hb : -20000000 ≤ b ∧ b ≤ 20000000) (hQ : ∀ ρ' : ZS, RBd σ (yP d 0 b 0) ρ' m pend → Em 1 ρ ρ' → zI ρ' 0 31 = zI ρ 0 31 + 1 → Q ρ') : wpX11_octet b ρ Q :=
  x_octet hB.1 hs hp hb (fun ρ' e x => hQ ρ' (hB.piece e x) e x.1)
/-- fields that emission leaves alone -/
def KpF (ρ ρ' : ZS) : Prop := (∀ f : Nat, f = 2 ∨ f = 5 ∨ f = 7 ∨ f = 8 ∨ f = 9 ∨ f = 10 ∨ f = 17 ∨ f = 23 → zI ρ' 0 f = zI ρ 0 f) ∧ zA ρ' 0 1 = zA ρ 0 1 ∧ zI ρ' 0 6 = zI ρ 0 6
theorem KpF.tr {a b c : ZS} (h : KpF a b) (k : KpF b c) : KpF a c := ⟨fun f hf => (k.1 f hf).trans (h.1 f hf), k.2.1.trans h.2.1, k.2.2.trans h.2.2⟩
theorem Em.kf {k : Int} {ρ ρ' : ZS} (e : Em k ρ ρ') : KpF ρ ρ' := ⟨fun f hf => e.2.2.1.1 f (fun q => by have := List.mem_singleton.mp q; omega), e.2.2.1.2 1 (by decide), e.s6⟩
theorem KpF.sy {h : Int → Int} {L i : Int} {E : Int → Int} {σ ρ ρ' : ZS} (k : KpF ρ ρ') (s : SY h L E σ i ρ) : SY h L E σ i ρ' := by
  obtain ⟨a1, a2, a3, a4, a5⟩ := s
  exact ⟨(k.1 2 (by omega)).trans a1, fun j j0 j1 => by rw [k.2.1]; exact a2 j j0 j1, (k.1 5 (by omega)).trans a3, k.2.2.trans a4, a5.k (k.1 7 (by omega)) (k.1 8 (by omega)) (k.1 9 (by omega)) (k.1 10 (by omega))⟩
theorem KpF.fresh {ρ ρ' : ZS} (k : KpF ρ ρ') (f : Fresh ρ) : Fresh ρ' := by
  intro q
  rw [k.1 7 (by omega)] at q
  rw [k.1 17 (by omega), k.2.2, k.1 23 (by omega)]
  exact f q
theorem KpF.op {ρ : ZS} {f : Nat} {v : Int} (hf : f = 37 ∨ f = 38 ∨ f = 39 ∨ f = 40 ∨ f = 41 ∨ f = 42) : KpF ρ (zsI ρ 0 f v) := by
  refine ⟨fun g hg => zI_f (by omega), rfl, zI_f (by omega)⟩
/-- a second operand stands: what the class writes then, what the reference does then (C) -/
def EmC (h : Int → Int) (L : Int) (E M : Int → Int) (τ υ ω : ZS) (C : ZS → ZS → (Int → ZS → Prop) → Prop) : Prop := ∀ (ρ1 ρ3 : ZS) (Qr : Int → ZS → Prop), GG ρ1 → OR τ 5 ρ1 → OpU ρ1 → PR ρ1 ρ3 → zI ρ3 0 31 = zI ρ1 0 31 → OR υ 6 ρ3 → OpU ρ3 → zI ρ3 0 33 = 1 → zI ρ3 0 31 + 4 ≤ 2 * zI ρ3 0 6 → RBd υ (yS υ) ρ3 (M (zI υ 14 4)) (nm (zI τ 5 3) ++ nm (zI υ 6 3)) → (∀ ρ' : ZS, RBd υ (yS ω) ρ' (M (zI υ 14 4)) [] → PR ρ3 ρ' → zI ρ' 0 31 ≤ zI ρ3 0 31 + 4 → KpF ρ3 ρ' → Qr 1 ρ') → C ρ1 ρ3 Qr
