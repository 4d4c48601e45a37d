/-! X: any operand on both sides -/
/-- a plain value -/
def VRs (σ : ZS) (g : Int) (τ : ZS) : Prop := zI τ g 0 = 4 ∧ ((zA σ 12 0 (zI σ 14 4) = 2 ∧ zI τ 14 4 = zI σ 14 4 + 1 ∧ zI τ g 3 = -1 ∧ zI τ g 2 = zA σ 12 1 (zI σ 14 4)) ∨ (zA σ 12 0 (zI σ 14 4) = 3 ∧ zI τ 14 4 = zI σ 14 4 + 1 ∧ zI τ g 3 = zA σ 12 1 (zI σ 14 4) ∧ zI τ g 5 = 0 ∧ zI τ g 2 = 0) ∨ (zA σ 12 0 (zI σ 14 4) = 64 ∧ zA σ 12 0 (zI σ 14 4 + 1) = 3 ∧ zI τ 14 4 = zI σ 14 4 + 1 + 1 ∧ zI τ g 3 = zA σ 12 1 (zI σ 14 4 + 1) ∧ zI τ g 5 = 1 ∧ zI τ g 2 = 0))
def VFl (σ : ZS) : Prop := ¬ zA σ 12 0 (zI σ 14 4) = 2 ∧ ¬ zA σ 12 0 (zI σ 14 4) = 3 ∧ ¬ (zA σ 12 0 (zI σ 14 4) = 64 ∧ zA σ 12 0 (zI σ 14 4 + 1) = 3)
theorem x_plainValue {g : Int} {σ : ZS} {Q : Int → ZS → Prop} (hg : 5 ≤ g ∧ g ≤ 6) (h : PS σ) (h1 : ∀ τ : ZS, OG g σ τ → OPI τ g → VRs σ g τ → Q 1 τ) (h0 : VFl σ → ∀ τ : ZS, OG g σ τ → Q 0 τ) : wpX8_plainValue g σ Q := by
  unfold wpX8_plainValue
  refine ⟨hg, x_clear hg h (by decide) (fun τ og oi ff e14 => c_type og.1 ?_)⟩
  obtain ⟨f0, f2, f3, f5, f6, f7⟩ := ff
  have e4 : zI τ 14 4 = zI σ 14 4 := ob_I e14 4
  have lv := og.lv hg
  have w0 : zA τ 12 0 = zA σ 12 0 := ob_A lv.2.1 0
  have w1 : zA τ 12 1 = zA σ 12 1 := ob_A lv.2.1 1
  have ht := og.1.tk
  have hN := og.1.2.2.2.2.2.2
  refine ⟨by have := ht.1; omega, fun n2 => ?_, fun e2 => c_value og.1 ?_⟩
  · have fin : ∀ (x : Int) (υ : ZS), (0 ≤ x ∧ x ≤ 1) → OG g τ υ → OPI υ g → (zI υ g 0 = 4 ∧ zI υ g 2 = 0) → zA υ 12 0 = zA σ 12 0 → zA υ 12 1 = zA σ 12 1 → ((x = 0 ∧ zI υ 14 4 = zI σ 14 4 ∧ zA σ 12 0 (zI σ 14 4) ≠ 64) ∨ (x = 1 ∧ zI υ 14 4 = zI σ 14 4 + 1 ∧ zA σ 12 0 (zI σ 14 4) = 64)) → ((0 ≤ x ∧ x ≤ 1) ∧ wpX8_value (zsI υ g 5 x) (fun (x11 : Int) (σ12 : ZS) => (0 ≤ (zI σ12 14 4) ∧ (zI σ12 14 4) < 481) ∧ wpX8_take 3 (zsI (zsI σ12 g 3 x11) g 4 (zA σ12 12 2 (zI σ12 14 4))) (fun (x14 : Int) (σ15 : ZS) => (0 ≤ x14 ∧ x14 ≤ 1) ∧ Q x14 σ15))) := by
      intro x υ hx ug uo uf u0 u1 hc
      have ug5 := ug.g (f := 5) (v := x) hg
      refine ⟨hx, c_value ug5.1 ⟨ug5.1.at, ?_⟩⟩
      have ug4 := (ug5.g (f := 3) (v := zA (zsI υ g 5 x) 12 1 (zI (zsI υ g 5 x) 14 4)) hg).g (f := 4) (v := zA (zsI υ g 5 x) 12 2 (zI (zsI υ g 5 x) 14 4)) hg
      refine c_take ug4.1 (by decide) (fun e p => ⟨by decide, h1 _ (og.tr (ug4.on (by omega))) ?_ ?_⟩) (fun n => ⟨by decide, h0 ?_ _ (og.tr ug4)⟩)
      · have tk5 := ug5.1.tk
        simp only [zI_g (show (14 : Int) ≠ g by omega)] at e
        have e' : zA (zsI υ g 5 x) 12 0 (zI (zsI υ g 5 x) 14 4) = 3 := by
          rw [zI_g (show (14 : Int) ≠ g by omega)]
          exact e
        obtain ⟨t1, t2, t3, t4⟩ := tk5
        have t4' := t4 e'
        have e11 : zI (zsI υ g 5 x) 11 5 = zI υ 11 5 := zI_g (by omega)
        rw [e11] at t4'
        obtain ⟨⟨a1, a2, a3, a4, a5, a6, a7⟩, b⟩ := uo
        unfold OPI OPB
        simp only [zI_g (show (11 : Int) ≠ 14 by decide), zI_g (show g ≠ 14 by omega), zI_g (show (11 : Int) ≠ g by omega), zI_s, zI_f (show (0 : Nat) ≠ 4 by decide), zI_f (show (0 : Nat) ≠ 3 by decide), zI_f (show (0 : Nat) ≠ 5 by decide), zI_f (show (2 : Nat) ≠ 3 by decide), zI_f (show (2 : Nat) ≠ 4 by decide), zI_f (show (2 : Nat) ≠ 5 by decide), zI_f (show (3 : Nat) ≠ 4 by decide), zI_f (show (5 : Nat) ≠ 3 by decide), zI_f (show (5 : Nat) ≠ 4 by decide), zI_f (show (6 : Nat) ≠ 3 by decide), zI_f (show (6 : Nat) ≠ 4 by decide), zI_f (show (6 : Nat) ≠ 5 by decide), zI_f (show (7 : Nat) ≠ 3 by decide), zI_f (show (7 : Nat) ≠ 4 by decide), zI_f (show (7 : Nat) ≠ 5 by decide)]
        exact ⟨⟨a1, ⟨by omega, t4'⟩, fun _ => t3.1, by omega, hx, a6, a7⟩, b⟩
      · simp only [zI_g (show (14 : Int) ≠ g by omega)] at e
        have e' : zA υ 12 0 (zI υ 14 4) = 3 := e
        rw [u0] at e'
        unfold VRs
        simp only [zI_g (show g ≠ 14 by omega), zI_g (show (14 : Int) ≠ g by omega), zI_s, zI_f (show (0 : Nat) ≠ 4 by decide), zI_f (show (0 : Nat) ≠ 3 by decide), zI_f (show (0 : Nat) ≠ 5 by decide), zI_f (show (2 : Nat) ≠ 3 by decide), zI_f (show (2 : Nat) ≠ 4 by decide), zI_f (show (2 : Nat) ≠ 5 by decide), zI_f (show (3 : Nat) ≠ 4 by decide), zI_f (show (5 : Nat) ≠ 3 by decide), zI_f (show (5 : Nat) ≠ 4 by decide)]
        have e1 : zA (zsI υ g 5 x) 12 1 (zI υ 14 4) = zA σ 12 1 (zI υ 14 4) := by show zA υ 12 1 _ = _; rw [u1]
        rw [e1]
        refine ⟨uf.1, ?_⟩
        rcases hc with ⟨c1, c2, c3⟩ | ⟨c1, c2, c3⟩
        · rw [c2] at e' ⊢
          exact Or.inr (Or.inl ⟨e', rfl, rfl, c1, uf.2⟩)
        · rw [c2] at e' ⊢
          exact Or.inr (Or.inr ⟨c3, e', rfl, rfl, c1, uf.2⟩)
      · simp only [zI_g (show (14 : Int) ≠ g by omega)] at n
        have n' : zA υ 12 0 (zI υ 14 4) ≠ 3 := n
        rw [u0] at n'
        rw [w0, e4] at n2
        refine ⟨n2, ?_, ?_⟩
        · rcases hc with ⟨c1, c2, c3⟩ | ⟨c1, c2, c3⟩
          · rw [c2] at n'; exact n'
          · omega
        · rcases hc with ⟨c1, c2, c3⟩ | ⟨c1, c2, c3⟩
          · exact fun q => c3 q.1
          · rw [c2] at n'; exact fun q => n' q.2
    refine c_take og.1 (by decide) (fun e p => fin 1 _ (by decide) ((OG.rf og.1).on (by omega)) (oi.k (ob_i (by decide)) (ob_i (by omega))) ?_ w0 w1 (Or.inr ⟨rfl, ?_, ?_⟩)) (fun n => fin 0 τ (by decide) (OG.rf og.1) oi ⟨f0, f2⟩ w0 w1 (Or.inl ⟨rfl, e4, ?_⟩))
    · rw [zI_g (by omega), zI_g (by omega)]; exact ⟨f0, f2⟩
    · rw [zI_s, e4]
    · rw [w0, e4] at e; exact e
    · rw [w0, e4] at n; exact n
  · have r := (og.g (f := 2) (v := zA τ 12 1 (zI τ 14 4)) hg).on (by
      rw [zI_g (show (14 : Int) ≠ g by omega)]
      show zA τ 12 0 (zI τ 14 4) ≠ 0
      omega)
    rw [zI_g (show (14 : Int) ≠ g by omega)] at r
    refine h1 _ r ⟨(oi.1.n2 hg).k (ob_i (by decide)) (ob_i (by omega)), ?_⟩ ?_
    · rw [zI_g (by omega), zI_s]
      exact ht.2.1
    · unfold VRs
      simp only [zI_g (show g ≠ 14 by omega), zI_s, zI_f (show (0 : Nat) ≠ 2 by decide), zI_f (show (3 : Nat) ≠ 2 by decide)]
      rw [w0, e4] at e2
      rw [w1, e4]
      exact ⟨f0, Or.inl ⟨e2, rfl, f3, rfl⟩⟩
theorem x_coded {g k : Int} {σ : ZS} {Q : Int → ZS → Prop} (hg : 5 ≤ g ∧ g ≤ 6) (h : PS σ) (hk : 0 ≤ k ∧ k ≤ 16) (hn : zA σ 12 0 (zI σ 14 4) ≠ 0) (hQ : ∀ τ : ZS, OG g σ τ → OPI τ g → zI τ 14 4 = zI σ 14 4 + 1 → zI τ g 0 = k → zI τ g 1 = zA σ 12 1 (zI σ 14 4) → zI τ g 3 = -1 → Q 1 τ) : wpX8_coded g k σ Q := by
  unfold wpX8_coded
  refine ⟨hg, x_clear hg h hk (fun τ og oi ff e14 => c_value og.1 ?_)⟩
  have lv := og.lv hg
  have og2 := og.g (f := 1) (v := zA τ 12 1 (zI τ 14 4)) hg
  have hn2 : zA (zsI τ g 1 (zA τ 12 1 (zI τ 14 4))) 12 0 (zI (zsI τ g 1 (zA τ 12 1 (zI τ 14 4))) 14 4) ≠ 0 := by
    rw [zI_g (by omega)]
    show zA τ 12 0 (zI τ 14 4) ≠ 0
    rw [og.2.1.A (m_no (by omega) (by decide)) 0, ob_I e14 4]; exact hn
  have r := og2.on hn2
  rw [zI_g (show (14 : Int) ≠ g by omega)] at r
  refine hQ _ r ⟨?_, ?_⟩ ?_ ?_ ?_ ?_
  · obtain ⟨⟨a1, a2, a3, a4, a5, a6, a7⟩, b⟩ := oi
    unfold OPB
    simp only [zI_g (show (11 : Int) ≠ 14 by decide), zI_g (show g ≠ 14 by omega), zI_g (show (11 : Int) ≠ g by omega), zI_f (show (0 : Nat) ≠ 1 by decide), zI_f (show (3 : Nat) ≠ 1 by decide), zI_f (show (4 : Nat) ≠ 1 by decide), zI_f (show (5 : Nat) ≠ 1 by decide), zI_f (show (6 : Nat) ≠ 1 by decide), zI_f (show (7 : Nat) ≠ 1 by decide)]
    exact ⟨a1, a2, a3, a4, a5, a6, a7⟩
  · rw [zI_g (by omega), zI_f (by decide)]; exact oi.2
  · rw [zI_s, ob_I e14 4]
  · rw [zI_g (by omega), zI_f (by decide)]; exact ff.1
  · rw [zI_g (by omega), zI_s, ob_A lv.2.1 1, ob_I e14 4]
  · rw [zI_g (by omega), zI_f (by decide)]; exact ff.2.2.1
/-- what may stand there, in the class's bits a and the reference's b -/
def AB (a b : Int) : Prop := (a % 2 = 0 ↔ b % 2 = 0) ∧ (zand a 2 = 0 ↔ zand b 8 = 0) ∧ (zand a 4 = 0 ↔ zand b 16 = 0) ∧ (zand a 8 = 0 ↔ zand b 2 = 0 ∧ zand b 4 = 0) ∧ (zand a 16 = 0 ↔ zand b 2 = 0)
