/-! X: a name behind a word, on both sides -/
theorem x_named {t v : Int} {σ : ZS} {Q : Int → ZS → Prop} (h : PS σ) (hat1 : t = 10 → 1 ≤ zI σ 14 4) (ht : (1 ≤ t ∧ t ≤ 3) ∨ (9 ≤ t ∧ t ≤ 12)) (hv : 0 ≤ v ∧ v ≤ 65536) (h9 : (t = 9 → v = 2) ∧ (t = 12 → v = 0)) (ho : t = 2 ∨ t = 3 ∨ zI σ 14 5 = 1) (hz : zI σ 13 7 < 248) (h1 : zA σ 12 0 (zI σ 14 4) = 3 → ∀ τ : ZS, PG σ τ → zI τ 14 4 = zI σ 14 4 + 1 → zI τ 13 7 = zI σ 13 7 + 1 → ob τ 11 = ob σ 11 → ob τ 12 = ob σ 12 → yS τ = yI (yS σ) t v (zA σ 12 1 (zI σ 14 4)) → Q 1 τ) (h0 : zA σ 12 0 (zI σ 14 4) ≠ 3 → Q 0 σ) : wpX8_named t v σ Q := by
  have hat := h.at
  have hat2 := h.2.2.1
  unfold wpX8_named
  refine c_take h (by decide) (fun e p => ⟨by decide, fun _ => ?_, fun q => absurd q (by decide)⟩) (fun ne => ⟨by decide, fun q => absurd rfl q, fun _ => h0 ne⟩)
  have tk := h.tk
  obtain ⟨t1, t2, t3, t4⟩ := tk
  have t4' := t4 e
  have up : PG σ (zsI σ 14 4 (zI σ 14 4 + 1)) := (PG.rf h).on (by omega)
  have f34 : ∀ w : Int, (-1 ≤ w ∧ w ≤ 480) → (t = 10 → 0 ≤ w) → wpX8_named_34 t v (zI σ 14 4) w (zsI σ 14 4 (zI σ 14 4 + 1)) Q := by
    intro w hw hw0
    unfold wpX8_named_34
    refine ⟨hat, x_add p ⟨by omega, hv, ⟨?_, ?_⟩, ?_, hw, fun _ _ _ => ?_, fun _ => ?_, fun q => absurd q (by omega), fun q => ?_, fun _ => ⟨fun q => absurd q (by omega), hw0, h9.2⟩⟩ ?_ hz (fun τ tp tk _ ts ty => h1 e τ (up.ad tp tk) (tk.I (by decide) 4) ts ((tk 11 (by decide)).trans (ob_i (by decide))) ((tk 12 (by decide)).trans (ob_i (by decide))) ty)⟩
    · show -1 ≤ zA σ 12 1 (zI σ 14 4)
      omega
    · exact t4'
    · show -1 ≤ zA σ 12 2 (zI σ 14 4) ∧ zA σ 12 2 (zI σ 14 4) ≤ 480
      omega
    · exact t2.1
    · exact t3.1
    · have := h9.1 q; omega
    · exact Or.inr ho
  refine ⟨by omega, fun q => f34 (-1) (by decide) (fun e10 => by have := hat1 e10; omega), fun q => ?_⟩
  have pl := (h.1.2 (zI σ 14 4 - 1) (by omega) (by omega)).2.2.1
  refine ⟨by omega, f34 _ ?_ (fun _ => ?_)⟩
  · show -1 ≤ zA σ 12 2 (zI σ 14 4 - 1) ∧ zA σ 12 2 (zI σ 14 4 - 1) ≤ 480
    omega
  · show 0 ≤ zA σ 12 2 (zI σ 14 4 - 1)
    omega
/-- a use, its item with it -/
theorem r_useD {h : Int → Int} {L i m a n p : Int} {E : Int → Int} {σ ρ : ZS} {d : YD} {Q : ZS → Prop} (hS : SY h L E σ i ρ) (hB : RBd σ d ρ m []) (ha : 1 ≤ a ∧ a ≤ 4) (hn : 0 ≤ n ∧ n < 240 ∧ n < zI ρ 0 17) (hp : 0 ≤ p ∧ p ≤ 480) (hu : zI ρ 0 23 + 1 ≤ zI ρ 0 5 ∧ zI ρ 0 23 < 480) (hQ : ∀ τ : ZS, SY h L E σ i τ → RBd σ (yU d a n) τ m [] → fr [23] [19, 20, 21, 22] ρ τ → PR ρ τ → (a = 4 → hasUse τ n) → Q τ) : wpX11_use a n p ρ Q := by
  obtain ⟨hG, b1, b3, b4⟩ := hB
  refine x_use hG (by omega) hn hp hu (fun q => by omega) (fun τ g pr f hs hx => ?_)
  refine hQ τ (hS.fr f (by decide) (by decide) (by decide) (by decide) (by decide) (by decide) (by decide) (by decide)) ⟨g, ?_, ?_, fun q => ?_⟩ f pr (fun q => hs (Or.inr q))
  · rw [f.1 17 (by decide), f.2 12 (by decide)]; exact b1
  · rw [f.1 33 (by decide)]; exact b3
  · obtain ⟨c1, c2, c3⟩ := b4 q
    exact ⟨(c1.k (f.2 13 (by decide)) (f.2 14 (by decide)) (f.2 15 (by decide)) (f.2 35 (by decide)) (f.1 34 (by decide)) (f.1 32 (by decide)) (f.1 18 (by decide)) : YN τ m d), (c2.k (f.1 31 (by decide)) (f.2 24 (by decide)) (f.2 25 (by decide)) (f.2 26 (by decide)) (f.2 28 (by decide)) : YP τ d), c3.add (by have := hG.2.1.2.2.2.2.2.2.2.1; omega) hx c1.2.2.2.2.1⟩
theorem RBd.fr {σ ρ τ : ZS} {d : YD} {m : Int} {pend : List Int} (k : RBd σ d ρ m pend) (hG : GG τ) (f : fr [5, 6, 7, 8, 9, 10] [] ρ τ) : RBd σ d τ m pend := by
  obtain ⟨a, b, c, e⟩ := k
  have A : ∀ x : Nat, zA τ 0 x = zA ρ 0 x := fun x => f.2 x (by simp)
  refine ⟨hG, ⟨(f.1 17 (by decide)).trans b.1, fun n n0 n1 => by rw [A]; exact b.2 n n0 n1⟩, (f.1 33 (by decide)).trans c, fun q => ?_⟩
  obtain ⟨d1, d2, d3⟩ := e q
  exact ⟨d1.k (A _) (A _) (A _) (A _) (f.1 34 (by decide)) (f.1 32 (by decide)) (f.1 18 (by decide)), d2.k (f.1 31 (by decide)) (A _) (A _) (A _) (A _), d3.k (f.1 23 (by decide)) (A _) (A _) (A _)⟩
