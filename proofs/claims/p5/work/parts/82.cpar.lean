/-! C: the parser's small steps -/
def al (v : Int) : Prop := v = 1 ∨ v = 2 ∨ v = 4 ∨ v = 8 ∨ v = 16
def IT (N t v n p w : Int) : Prop := (0 ≤ t ∧ t ≤ 12) ∧ (0 ≤ v ∧ v ≤ 65536) ∧ (-1 ≤ n ∧ n < N) ∧ (-1 ≤ p ∧ p ≤ 480) ∧ (-1 ≤ w ∧ w ≤ 480) ∧ (t ≠ 4 → t ≠ 5 → t ≠ 6 → 0 ≤ n) ∧ (0 ≤ n → 0 ≤ p) ∧ (t = 5 → v ≤ 64) ∧ (t = 9 → v = 2) ∧ (t = 0 ∨ t = 10 ∨ t = 12 → (t = 0 → al v) ∧ (t = 10 → 0 ≤ w) ∧ (t = 12 → v = 0))
/-- the same, where jumps may have grown -/
def ITw (N t v n p w : Int) : Prop := (0 ≤ t ∧ t ≤ 12) ∧ (0 ≤ v ∧ v ≤ 65536) ∧ (-1 ≤ n ∧ n < N) ∧ (-1 ≤ p ∧ p ≤ 480) ∧ (-1 ≤ w ∧ w ≤ 480) ∧ (t ≠ 4 → t ≠ 5 → t ≠ 6 → 0 ≤ n) ∧ (0 ≤ n → 0 ≤ p) ∧ (t = 5 → v ≤ 64) ∧ (t = 9 → 2 ≤ v ∧ v ≤ 3) ∧ (t = 0 ∨ t = 10 ∨ t = 12 → (t = 0 → al v) ∧ (t = 10 → 0 ≤ w) ∧ (t = 12 → v = 0))
def DI (σ : ZS) : Prop := (0 ≤ zI σ 13 7 ∧ zI σ 13 7 ≤ 248) ∧ (∀ i : Int, 0 ≤ i → i < zI σ 13 7 → IT (zI σ 11 5) (zA σ 13 0 i) (zA σ 13 1 i) (zA σ 13 2 i) (zA σ 13 3 i) (zA σ 13 4 i)) ∧ (∀ i : Int, 0 ≤ i → i < zI σ 13 7 → 0 ≤ zA σ 13 6 i ∧ zA σ 13 6 i ≤ 20000)
def DIw (σ : ZS) : Prop := (0 ≤ zI σ 13 7 ∧ zI σ 13 7 ≤ 248) ∧ (∀ i : Int, 0 ≤ i → i < zI σ 13 7 → ITw (zI σ 11 5) (zA σ 13 0 i) (zA σ 13 1 i) (zA σ 13 2 i) (zA σ 13 3 i) (zA σ 13 4 i)) ∧ (∀ i : Int, 0 ≤ i → i < zI σ 13 7 → 0 ≤ zA σ 13 6 i ∧ zA σ 13 6 i ≤ 20000)
theorem DI.w {σ : ZS} (h : DI σ) : DIw σ := ⟨h.1, fun i i0 i1 => by
  obtain ⟨i1, i2, i3, i4, i5, i6, i7, i8, i9, i10⟩ := h.2.1 i i0 i1
  exact ⟨i1, i2, i3, i4, i5, i6, i7, i8, fun q => by have := i9 q; omega, i10⟩, h.2.2⟩
def DO (σ : ZS) : Prop := (∀ i : Int, 0 ≤ i → i < zI σ 13 7 → zA σ 13 0 i = 0 ∨ zA σ 13 0 i = 2 ∨ zA σ 13 0 i = 3 ∨ ∃ j : Int, 0 ≤ j ∧ j < i ∧ zA σ 13 0 j = 0) ∧ (zI σ 14 5 ≠ 0 → zI σ 13 7 = 248 ∨ ∃ j : Int, 0 ≤ j ∧ j < zI σ 13 7 ∧ zA σ 13 0 j = 0)
def PS (σ : ZS) : Prop := TI σ ∧ (1 ≤ zI σ 12 3 ∧ zA σ 12 0 (zI σ 12 3 - 1) = 0) ∧ (0 ≤ zI σ 14 4 ∧ zI σ 14 4 ≤ zI σ 12 3 - 1) ∧ (0 ≤ zI σ 14 5 ∧ zI σ 14 5 ≤ 1) ∧ DI σ ∧ DO σ ∧ (0 ≤ zI σ 11 5 ∧ zI σ 11 5 ≤ 240)
theorem DI.k {σ τ : ZS} (h : DI σ) (e : ob τ 11 = ob σ 11) (e' : ob τ 13 = ob σ 13) : DI τ := by
  have e1 := ob_I e; have e3 := ob_I e'; have e4 := ob_A e'
  unfold DI; simp only [e1, e3, e4]; exact h
theorem DO.k {σ τ : ZS} (h : DO σ) (e' : ob τ 13 = ob σ 13) (e5 : zI τ 14 5 = zI σ 14 5) : DO τ := by
  have e3 := ob_I e'; have e4 := ob_A e'
  unfold DO; simp only [e3, e4, e5]; exact h
theorem PS.mv {σ τ : ZS} (h : PS σ) (e11 : ob τ 11 = ob σ 11) (e12 : ob τ 12 = ob σ 12) (e13 : ob τ 13 = ob σ 13) (e5 : zI τ 14 5 = zI σ 14 5) (ha : 0 ≤ zI τ 14 4 ∧ zI τ 14 4 ≤ zI σ 12 3 - 1) : PS τ := by
  obtain ⟨h1, h2, h3, h4, h5, h6, h7⟩ := h
  refine ⟨h1.k e11 e12, ?_, ?_, ?_, h5.k e11 e13, h6.k e13 e5, by rw [ob_I e11 5]; exact h7⟩
  · rw [ob_I e12 3, ob_A e12 0]; exact h2
  · rw [ob_I e12 3]; exact ha
  · rw [e5]; exact h4
theorem PS.k {σ τ : ZS} {G : List Int} (h : PS σ) (k : kp G σ τ) (h11 : (11 : Int) ∉ G) (h12 : (12 : Int) ∉ G) (h13 : (13 : Int) ∉ G) (h14 : (14 : Int) ∉ G) : PS τ := h.mv (k 11 h11) (k 12 h12) (k 13 h13) (k.I h14 5) (by rw [k.I h14 4]; exact h.2.2.1)
theorem PS.tk {σ : ZS} (h : PS σ) : TK (zI σ 11 5) (zA σ 12 0 (zI σ 14 4)) (zA σ 12 1 (zI σ 14 4)) (zA σ 12 2 (zI σ 14 4)) := h.1.2 _ h.2.2.1.1 (by have := h.2.2.1; omega)
theorem PS.at {σ : ZS} (h : PS σ) : 0 ≤ zI σ 14 4 ∧ zI σ 14 4 < 481 := by
  have h1 := h.2.2.1; have h2 := h.1.1; omega
theorem PS.on {σ : ZS} (h : PS σ) (hn : zA σ 12 0 (zI σ 14 4) ≠ 0) : PS (zsI σ 14 4 (zI σ 14 4 + 1)) := by
  have h1 := h.2.2.1; have h2 := h.2.1
  refine h.mv (ob_i (by decide)) (ob_i (by decide)) (ob_i (by decide)) rfl ?_
  show 0 ≤ zI σ 14 4 + 1 ∧ zI σ 14 4 + 1 ≤ zI σ 12 3 - 1
  have : zI σ 14 4 ≠ zI σ 12 3 - 1 := fun e => hn (by rw [e]; exact h2.2)
  omega
theorem c_type {σ : ZS} {Q : Int → ZS → Prop} (h : PS σ) (hQ : Q (zA σ 12 0 (zI σ 14 4)) σ) : wpX8_type σ Q := ⟨h.at, hQ⟩
theorem c_value {σ : ZS} {Q : Int → ZS → Prop} (h : PS σ) (hQ : Q (zA σ 12 1 (zI σ 14 4)) σ) : wpX8_value σ Q := ⟨h.at, hQ⟩
theorem c_take {σ : ZS} {a : Int} {Q : Int → ZS → Prop} (h : PS σ) (ha : 1 ≤ a ∧ a ≤ 126) (h1 : zA σ 12 0 (zI σ 14 4) = a → PS (zsI σ 14 4 (zI σ 14 4 + 1)) → Q 1 (zsI σ 14 4 (zI σ 14 4 + 1))) (h0 : zA σ 12 0 (zI σ 14 4) ≠ a → Q 0 σ) : wpX8_take a σ Q := by
  have ht := h.tk.1
  unfold wpX8_take
  exact ⟨h.at, by omega, by omega, fun e => h1 e (h.on (by omega)), h0⟩
/-- the draft grows -/
theorem c_add {σ : ZS} {t v n p w : Int} {Q : ZS → Prop} (h : PS σ) (hi : IT (zI σ 11 5) t v n p w) (ho : t = 0 ∨ t = 2 ∨ t = 3 ∨ zI σ 14 5 = 1) (hQ : ∀ τ : ZS, PS τ → kp [13] σ τ → (zI τ 13 7 = 248 ∨ ∃ j : Int, 0 ≤ j ∧ j < zI τ 13 7 ∧ zA τ 13 0 j = t) → Q τ) : wpX0_add t v n p w σ Q := by
  have h' := h
  obtain ⟨h1, h2, h3, h4, ⟨d1, d2, d3⟩, ⟨o1, o2⟩, h7⟩ := h'
  have key : ∀ τ : ZS, zI σ 13 7 < 248 → kp [13] σ τ → zI τ 13 7 = zI σ 13 7 + 1 → zA τ 13 0 = zu (zA σ 13 0) (zI σ 13 7) t → zA τ 13 1 = zu (zA σ 13 1) (zI σ 13 7) v → zA τ 13 2 = zu (zA σ 13 2) (zI σ 13 7) n → zA τ 13 3 = zu (zA σ 13 3) (zI σ 13 7) p → zA τ 13 4 = zu (zA σ 13 4) (zI σ 13 7) w → zA τ 13 6 = zu (zA σ 13 6) (zI σ 13 7) 0 → Q τ := by
    intro τ hlt k ez e0 e1 e2 e3 e4 e6
    have e14 := k.I (g := 14) (by decide)
    have o1' : ∀ i : Int, 0 ≤ i → i < zI σ 13 7 → zu (zA σ 13 0) (zI σ 13 7) t i = zA σ 13 0 i := fun i i0 i1 => pu_ne (by omega)
    refine hQ τ ⟨h1.k (k 11 (by decide)) (k 12 (by decide)), ?_, ?_, ?_, ⟨by omega, fun i i0 i1 => ?_, fun i i0 i1 => ?_⟩, ⟨fun i i0 i1 => ?_, fun q => ?_⟩, by rw [k.I (by decide) 5]; exact h7⟩ k (Or.inr ⟨zI σ 13 7, d1.1, by omega, by rw [e0]; exact pu_eq⟩)
    · rw [k.I (by decide) 3, k.A (by decide) 0]; exact h2
    · rw [e14 4, k.I (by decide) 3]; exact h3
    · rw [e14 5]; exact h4
    · rw [k.I (by decide) 5, e0, e1, e2, e3, e4]
      by_cases e : i = zI σ 13 7
      · rw [e, pu_eq, pu_eq, pu_eq, pu_eq, pu_eq]; exact hi
      · rw [pu_ne e, pu_ne e, pu_ne e, pu_ne e, pu_ne e]; exact d2 i i0 (by omega)
    · rw [e6]
      by_cases e : i = zI σ 13 7
      · rw [e, pu_eq]; decide
      · rw [pu_ne e]; exact d3 i i0 (by omega)
    · rw [e0]
      by_cases e : i = zI σ 13 7
      · rw [e, pu_eq]
        rcases ho with q | q | q | q
        · exact Or.inl q
        · exact Or.inr (Or.inl q)
        · exact Or.inr (Or.inr (Or.inl q))
        · rcases o2 (by omega) with r | ⟨j, j0, j1, j2⟩
          · omega
          · exact Or.inr (Or.inr (Or.inr ⟨j, j0, j1, by rw [o1' j j0 j1]; exact j2⟩))
      · rw [pu_ne e]
        rcases o1 i i0 (by omega) with q | q | q | ⟨j, j0, j1, j2⟩
        · exact Or.inl q
        · exact Or.inr (Or.inl q)
        · exact Or.inr (Or.inr (Or.inl q))
        · exact Or.inr (Or.inr (Or.inr ⟨j, j0, j1, by rw [o1' j j0 (by omega)]; exact j2⟩))
    · rw [e14 5] at q
      rcases o2 q with r | ⟨j, j0, j1, j2⟩
      · omega
      · exact Or.inr ⟨j, j0, by omega, by rw [e0, o1' j j0 j1]; exact j2⟩
  unfold wpX0_add wpX0_add_92
  refine ⟨by omega, fun a => hQ σ h kp.rf (Or.inl (by omega)), fun a => ⟨by omega, key _ (by omega) ((((((((kp.rf.ta (by decide)).ta (by decide)).ta (by decide)).ta (by decide)).ta (by decide)).ta (by decide)).ta (by decide)).ti (by decide)) rfl rfl rfl rfl rfl rfl rfl⟩⟩
theorem c_addByte {σ : ZS} {b : Int} {Q : ZS → Prop} (h : PS σ) (ho : zI σ 14 5 = 1) (hQ : ∀ τ : ZS, PS τ → kp [13] σ τ → Q τ) : wpX0_addByte b σ Q := by
  unfold wpX0_addByte
  have hN := h.2.2.2.2.2.2
  exact c_add h ⟨by decide, by omega, by omega, by decide, by decide, fun q => absurd rfl q, fun q => absurd q (by decide), fun q => absurd q (by decide), fun q => absurd q (by decide), fun q => absurd q (by decide)⟩ (Or.inr (Or.inr (Or.inr ho))) (fun τ a b _ => hQ τ a b)
/-! an operand -/
def OPB (σ : ZS) (g : Int) : Prop := (0 ≤ zI σ g 0 ∧ zI σ g 0 ≤ 16) ∧ (-1 ≤ zI σ g 3 ∧ zI σ g 3 < zI σ 11 5) ∧ (0 ≤ zI σ g 3 → 0 ≤ zI σ g 4) ∧ (-1 ≤ zI σ g 4 ∧ zI σ g 4 ≤ 480) ∧ (0 ≤ zI σ g 5 ∧ zI σ g 5 ≤ 1) ∧ (zI σ g 6 = 0 ∨ zI σ g 6 = 3 ∨ zI σ g 6 = 5) ∧ (zI σ g 7 = 0 ∨ zI σ g 7 = 6 ∨ zI σ g 7 = 7)
def OPI (σ : ZS) (g : Int) : Prop := OPB σ g ∧ (0 ≤ zI σ g 2 ∧ zI σ g 2 ≤ 65536)
theorem OPB.k {σ τ : ZS} {g : Int} (h : OPB σ g) (e : ob τ 11 = ob σ 11) (e' : ob τ g = ob σ g) : OPB τ g := by
  have e1 := ob_I e; have e3 := ob_I e'
  unfold OPB; simp only [e1, e3]; exact h
theorem OPI.k {σ τ : ZS} {g : Int} (h : OPI σ g) (e : ob τ 11 = ob σ 11) (e' : ob τ g = ob σ g) : OPI τ g := ⟨h.1.k e e', by rw [ob_I e' 2]; exact h.2⟩
/-- an operand is read: what may change -/
def OG (g : Int) (σ τ : ZS) : Prop := PS τ ∧ kp [g, 14] σ τ ∧ zI τ 14 5 = zI σ 14 5
theorem OG.rf {g : Int} {σ : ZS} (h : PS σ) : OG g σ σ := ⟨h, kp.rf, rfl⟩
theorem OG.tr {g : Int} {σ τ υ : ZS} (h : OG g σ τ) (k : OG g τ υ) : OG g σ υ := ⟨k.1, h.2.1.tr k.2.1, k.2.2.trans h.2.2⟩
theorem m_g1 {g h : Int} : g ∈ [g, h] := List.mem_cons_self
theorem m_g2 {g h : Int} : h ∈ [g, h] := List.mem_cons_of_mem _ List.mem_cons_self
theorem m_no {g a b : Int} (h1 : a ≠ g) (h2 : a ≠ b) : a ∉ [g, b] := by
  intro q
  rcases List.mem_cons.mp q with e | q
  · exact h1 e
  · exact h2 (List.mem_singleton.mp q)
theorem OG.on {g : Int} {σ τ : ZS} (h : OG g σ τ) (hn : zA τ 12 0 (zI τ 14 4) ≠ 0) : OG g σ (zsI τ 14 4 (zI τ 14 4 + 1)) := ⟨h.1.on hn, h.2.1.ti m_g2, h.2.2⟩
theorem OG.g {g v : Int} {σ τ : ZS} {f : Nat} (h : OG g σ τ) (hg : 5 ≤ g ∧ g ≤ 6) : OG g σ (zsI τ g f v) := ⟨h.1.mv (ob_i (by omega)) (ob_i (by omega)) (ob_i (by omega)) (zI_g (by omega)) (by rw [zI_g (by omega)]; exact h.1.2.2.1), h.2.1.ti m_g1, (zI_g (by omega)).trans h.2.2⟩
theorem c_clear {g k : Int} {σ : ZS} {Q : ZS → Prop} (hg : 5 ≤ g ∧ g ≤ 6) (h : PS σ) (hk : 0 ≤ k ∧ k ≤ 16) (hQ : ∀ τ : ZS, OG g σ τ → OPI τ g → zI τ g 0 = k → zI τ g 3 = -1 → ob τ 14 = ob σ 14 → Q τ) : wpX7_clear g k σ Q := by
  have hN := h.2.2.2.2.2.2
  have key : ∀ τ : ZS, kp [g] σ τ → zI τ g 0 = k → zI τ g 2 = 0 → zI τ g 3 = -1 → zI τ g 4 = -1 → zI τ g 5 = 0 → zI τ g 6 = 0 → zI τ g 7 = 0 → Q τ := by
    intro τ kk e0 e2 e3 e4 e5 e6 e7
    have nn : ∀ a : Int, a ≠ g → a ∉ [g] := fun a q q' => q (List.mem_singleton.mp q')
    have e11 := kk 11 (nn 11 (by omega))
    refine hQ τ ⟨h.k kk (nn 11 (by omega)) (nn 12 (by omega)) (nn 13 (by omega)) (nn 14 (by omega)), kk.up (fun a q => by rw [List.mem_singleton.mp q]; exact m_g1), kk.I (nn 14 (by omega)) 5⟩ ⟨⟨?_, ?_, ?_, ?_, ?_, Or.inl e6, Or.inl e7⟩, by rw [e2]; decide⟩ e0 e3 (kk 14 (nn 14 (by omega)))
    · rw [e0]; exact hk
    · rw [e3, ob_I e11 5]; omega
    · rw [e3]; intro q; exact absurd q (by decide)
    · rw [e4]; decide
    · rw [e5]; decide
  unfold wpX7_clear
  refine ⟨hg, ?_⟩
  obtain rfl | rfl : g = 5 ∨ g = 6 := by omega
  · exact key _ ((((((((kp.rf.ti (by decide)).ti (by decide)).ti (by decide)).ti (by decide)).ti (by decide)).ti (by decide)).ti (by decide)).ti (by decide)) rfl rfl rfl rfl rfl rfl rfl
  · exact key _ ((((((((kp.rf.ti (by decide)).ti (by decide)).ti (by decide)).ti (by decide)).ti (by decide)).ti (by decide)).ti (by decide)).ti (by decide)) rfl rfl rfl rfl rfl rfl rfl
theorem c_coded {g k : Int} {σ : ZS} {Q : Int → ZS → Prop} (hg : 5 ≤ g ∧ g ≤ 6) (h : PS σ) (hk : 0 ≤ k ∧ k ≤ 16) (hn : zA σ 12 0 (zI σ 14 4) ≠ 0) (hQ : ∀ τ : ZS, OG g σ τ → OPI τ g → Q 1 τ) : wpX8_coded g k σ Q := by
  unfold wpX8_coded
  refine ⟨hg, c_clear hg h hk (fun τ og oi _ _ e14 => c_value og.1 ?_)⟩
  have og2 := og.g (f := 1) (v := zA τ 12 1 (zI τ 14 4)) hg
  have hn2 : zA (zsI τ g 1 (zA τ 12 1 (zI τ 14 4))) 12 0 (zI (zsI τ g 1 (zA τ 12 1 (zI τ 14 4))) 14 4) ≠ 0 := by
    rw [zI_g (by omega)]
    show zA τ 12 0 (zI τ 14 4) ≠ 0
    rw [og.2.1.A (m_no (by omega) (by decide)) 0, ob_I e14 4]; exact hn
  have r := og2.on hn2
  rw [zI_g (show (14 : Int) ≠ g by omega)] at r
  refine hQ _ r ⟨?_, ?_⟩
  · obtain ⟨⟨a1, a2, a3, a4, a5, a6, a7⟩, b⟩ := oi
    unfold OPB
    simp only [zI_g (show (11 : Int) ≠ 14 by decide), zI_g (show g ≠ 14 by omega), zI_g (show (11 : Int) ≠ g by omega), zI_f (show (0 : Nat) ≠ 1 by decide), zI_f (show (3 : Nat) ≠ 1 by decide), zI_f (show (4 : Nat) ≠ 1 by decide), zI_f (show (5 : Nat) ≠ 1 by decide), zI_f (show (6 : Nat) ≠ 1 by decide), zI_f (show (7 : Nat) ≠ 1 by decide)]
    exact ⟨a1, a2, a3, a4, a5, a6, a7⟩
  · rw [zI_g (by omega), zI_f (by decide)]; exact oi.2
theorem c_part {g : Int} {σ : ZS} {Q : Int → ZS → Prop} (hg : 5 ≤ g ∧ g ≤ 6) (h : PS σ) (ho : OPB σ g) (h1 : ∀ τ : ZS, OG g σ τ → OPB τ g → Q 1 τ) (h0 : Q 0 σ) : wpX8_part g σ Q := by
  obtain ⟨a1, a2, a3, a4, a5, a6, a7⟩ := ho
  have ht := h.tk
  have hN := h.2.2.2.2.2.2
  obtain ⟨t1, t2, t3, t4⟩ := ht
  have f141 : ∀ τ : ZS, zA σ 12 0 (zI σ 14 4) ≠ 0 → OG g σ τ → ob τ 14 = ob σ 14 → OPB τ g → wpX8_part_141 τ Q := by
    intro τ hn og e14 oo
    unfold wpX8_part_141
    refine h1 _ (og.on ?_) (oo.k (ob_i (by decide)) (ob_i (by omega)))
    rw [og.2.1.A (m_no (by omega) (by decide)) 0, ob_I e14 4]; exact hn
  have f124 : ∀ v : Int, v = 6 ∨ v = 7 → zA σ 12 0 (zI σ 14 4) ≠ 0 → wpX8_part_124 g v σ Q := by
    intro v hv hn
    unfold wpX8_part_124 wpX8_part_139
    refine ⟨hg, by omega, fun _ => h0, fun _ => f141 _ hn ((OG.rf h).g hg) (ob_i (by omega)) ?_⟩
    unfold OPB
    simp only [zI_g (show (11 : Int) ≠ g by omega), zI_s, zI_f (show (0 : Nat) ≠ 7 by decide), zI_f (show (3 : Nat) ≠ 7 by decide), zI_f (show (4 : Nat) ≠ 7 by decide), zI_f (show (5 : Nat) ≠ 7 by decide), zI_f (show (6 : Nat) ≠ 7 by decide)]
    exact ⟨a1, a2, a3, a4, a5, a6, Or.inr hv⟩
  have f112 : ∀ v : Int, (-2147483648 ≤ v ∧ v ≤ 2147483647) → zA σ 12 0 (zI σ 14 4) ≠ 0 → wpX8_part_112 g v σ Q := by
    intro v hv hn
    unfold wpX8_part_112 wpX8_part_139
    exact ⟨hv, fun e => f124 v (Or.inl e) hn, fun _ => ⟨fun _ => h0, fun e => f124 v (Or.inr e) hn⟩⟩
  have f97 : ∀ v : Int, v = 3 ∨ v = 5 → zA σ 12 0 (zI σ 14 4) ≠ 0 → wpX8_part_97 g v σ Q := by
    intro v hv hn
    unfold wpX8_part_97
    refine ⟨hg, by omega, fun _ => f112 v (by omega) hn, fun _ => f141 _ hn ((OG.rf h).g hg) (ob_i (by omega)) ?_⟩
    unfold OPB
    simp only [zI_g (show (11 : Int) ≠ g by omega), zI_s, zI_f (show (0 : Nat) ≠ 6 by decide), zI_f (show (3 : Nat) ≠ 6 by decide), zI_f (show (4 : Nat) ≠ 6 by decide), zI_f (show (5 : Nat) ≠ 6 by decide), zI_f (show (7 : Nat) ≠ 6 by decide)]
    exact ⟨a1, a2, a3, a4, a5, Or.inr hv, a7⟩
  have f80 : wpX8_part_80 g (zA σ 12 0 (zI σ 14 4)) (zA σ 12 1 (zI σ 14 4)) σ Q := by
    unfold wpX8_part_80
    exact ⟨by omega, fun e => ⟨by omega, fun e' => f97 _ (Or.inl e') (by omega), fun _ => ⟨fun _ => f112 _ (by omega) (by omega), fun e' => f97 _ (Or.inr e') (by omega)⟩⟩, fun _ => h0⟩
  unfold wpX8_part
  refine ⟨h.at, by omega, fun _ => ⟨fun _ => f80, fun e3 => ⟨hg, by omega, fun _ => f80, fun _ => f141 _ (by omega) (((OG.rf h).g hg).g hg) ((ob_i (by omega)).trans (ob_i (by omega))) ?_⟩⟩, fun e2 => ⟨hg, f141 _ (by omega) ((OG.rf h).g hg) (ob_i (by omega)) ?_⟩⟩
  · have := t4 e3
    unfold OPB
    simp only [zI_g (show (11 : Int) ≠ g by omega), zI_s, zI_f (show (0 : Nat) ≠ 4 by decide), zI_f (show (0 : Nat) ≠ 3 by decide), zI_f (show (3 : Nat) ≠ 4 by decide), zI_f (show (5 : Nat) ≠ 3 by decide), zI_f (show (5 : Nat) ≠ 4 by decide), zI_f (show (6 : Nat) ≠ 3 by decide), zI_f (show (6 : Nat) ≠ 4 by decide), zI_f (show (7 : Nat) ≠ 3 by decide), zI_f (show (7 : Nat) ≠ 4 by decide)]
    exact ⟨a1, by omega, fun _ => t3.1, by omega, a5, a6, a7⟩
  · unfold OPB
    simp only [zI_g (show (11 : Int) ≠ g by omega), zI_f (show (0 : Nat) ≠ 2 by decide), zI_f (show (3 : Nat) ≠ 2 by decide), zI_f (show (4 : Nat) ≠ 2 by decide), zI_f (show (5 : Nat) ≠ 2 by decide), zI_f (show (6 : Nat) ≠ 2 by decide), zI_f (show (7 : Nat) ≠ 2 by decide)]
    exact ⟨a1, a2, a3, a4, a5, a6, a7⟩
theorem OPB.n2 {g v : Int} {τ : ZS} (h : OPB τ g) (hg : 5 ≤ g ∧ g ≤ 6) : OPB (zsI τ g 2 v) g := by
  unfold OPB
  simp only [zI_g (show (11 : Int) ≠ g by omega), zI_f (show (0 : Nat) ≠ 2 by decide), zI_f (show (3 : Nat) ≠ 2 by decide), zI_f (show (4 : Nat) ≠ 2 by decide), zI_f (show (5 : Nat) ≠ 2 by decide), zI_f (show (6 : Nat) ≠ 2 by decide), zI_f (show (7 : Nat) ≠ 2 by decide)]
  exact h
theorem c_brackets {g : Int} {σ : ZS} {Q : Int → ZS → Prop} (hg : 5 ≤ g ∧ g ≤ 6) (h : PS σ) (hn : zA σ 12 0 (zI σ 14 4) ≠ 0) (h1 : ∀ τ : ZS, OG g σ τ → OPI τ g → Q 1 τ) (h0 : ∀ τ : ZS, OG g σ τ → Q 0 τ) : wpX8_brackets g σ Q := by
  unfold wpX8_brackets
  refine ⟨hg, c_clear hg h (by decide) (fun τ0 og0 oi0 _ _ e14 => ?_)⟩
  have hn0 : zA τ0 12 0 (zI τ0 14 4) ≠ 0 := by
    rw [og0.2.1.A (m_no (by omega) (by decide)) 0, ob_I e14 4]; exact hn
  have og1 := og0.on hn0
  refine c_part hg og1.1 (oi0.1.k (ob_i (by decide)) (ob_i (by omega))) (fun τ2 og2 ob2 => ⟨by decide, fun _ => ?_, fun q => absurd q (by decide)⟩) ⟨by decide, fun q => absurd rfl q, fun _ => h0 _ og1⟩
  have f117 : ∀ τ : ZS, OG g σ τ → OPB τ g → wpX8_brackets_117 g τ Q := by
    intro τ og oo
    unfold wpX8_brackets_117
    have og' := og.g (f := 2) (v := zI τ g 2 % 65536) hg
    have oi' : OPI (zsI τ g 2 (zI τ g 2 % 65536)) g := ⟨oo.n2 hg, by rw [zI_s]; omega⟩
    exact ⟨hg, c_take og'.1 (by decide) (fun e p => ⟨by decide, h1 _ (og'.on (by omega)) (oi'.k (ob_i (by decide)) (ob_i (by omega)))⟩) (fun _ => ⟨by decide, h0 _ og'⟩)⟩
  unfold wpX8_brackets_27
  refine lfp1_ind (fun v _ => (481 - v).toNat) (fun v τ => OG g σ τ ∧ OPB τ g ∧ (0 ≤ v ∧ v ≤ 481)) (fun K v τ hI ih => ?_) ⟨og1.tr og2, ob2, by decide⟩
  obtain ⟨og, oo, v0⟩ := hI
  have hz := og.1.1.1
  have ht := og.1.tk.1
  unfold wpbX8_brackets_27 wpX8_brackets_109 wpX8_brackets_111
  refine ⟨by omega, by omega, fun _ => f117 τ og oo, fun a => c_type og.1 ⟨by omega, fun _ => f117 τ og oo, fun _ => c_take og.1 (by decide) (fun e45 p => ⟨by decide, fun q => absurd q (by decide), fun _ => ?_⟩) (fun n45 => ⟨by decide, fun _ => c_take og.1 (by decide) (fun e43 p => ⟨by decide, fun q => absurd q (by decide), fun _ => ?_⟩) (fun _ => ⟨by decide, fun _ => h0 _ og, fun q => absurd rfl q⟩), fun q => absurd rfl q⟩)⟩⟩
  · have og' := og.on (show zA τ 12 0 (zI τ 14 4) ≠ 0 by omega)
    have oo' : OPB (zsI τ 14 4 (zI τ 14 4 + 1)) g := oo.k (ob_i (by decide)) (ob_i (by omega))
    have ht' := og'.1.tk.1
    refine c_type og'.1 ⟨by omega, fun e2 => ⟨hg, c_value og'.1 ?_⟩, fun _ => h0 _ og'⟩
    have r := (og'.g (f := 2) (v := zI (zsI τ 14 4 (zI τ 14 4 + 1)) g 2 - zA (zsI τ 14 4 (zI τ 14 4 + 1)) 12 1 (zI (zsI τ 14 4 (zI τ 14 4 + 1)) 14 4)) hg).on (by
      rw [zI_g (show (14 : Int) ≠ g by omega)]
      show zA (zsI τ 14 4 (zI τ 14 4 + 1)) 12 0 (zI (zsI τ 14 4 (zI τ 14 4 + 1)) 14 4) ≠ 0
      omega)
    rw [zI_g (show (14 : Int) ≠ g by omega)] at r
    exact ih _ _ ⟨r, (oo'.n2 hg).k (ob_i (by decide)) (ob_i (by omega)), by omega⟩ (by omega)
  · have og' := og.on (show zA τ 12 0 (zI τ 14 4) ≠ 0 by omega)
    have oo' : OPB (zsI τ 14 4 (zI τ 14 4 + 1)) g := oo.k (ob_i (by decide)) (ob_i (by omega))
    exact c_part hg og'.1 oo' (fun υ ug uo => ⟨by decide, fun _ => ih _ _ ⟨og'.tr ug, uo, by omega⟩ (by omega), fun q => absurd q (by decide)⟩) ⟨by decide, fun q => absurd rfl q, fun _ => h0 _ og'⟩
theorem c_plainValue {g : Int} {σ : ZS} {Q : Int → ZS → Prop} (hg : 5 ≤ g ∧ g ≤ 6) (h : PS σ) (h1 : ∀ τ : ZS, OG g σ τ → OPI τ g → Q 1 τ) (h0 : ∀ τ : ZS, OG g σ τ → Q 0 τ) : wpX8_plainValue g σ Q := by
  unfold wpX8_plainValue
  refine ⟨hg, c_clear hg h (by decide) (fun τ og oi e0 e3 e14 => c_type og.1 ?_)⟩
  have ht := og.1.tk
  have hN := og.1.2.2.2.2.2.2
  refine ⟨by have := ht.1; omega, fun n2 => ?_, fun e2 => c_value og.1 ?_⟩
  · have fin : ∀ (x : Int) (υ : ZS), (0 ≤ x ∧ x ≤ 1) → OG g τ υ → OPI υ g → ((0 ≤ x ∧ x ≤ 1) ∧ wpX8_value (zsI υ g 5 x) (fun (x11 : Int) (σ12 : ZS) => (0 ≤ (zI σ12 14 4) ∧ (zI σ12 14 4) < 481) ∧ wpX8_take 3 (zsI (zsI σ12 g 3 x11) g 4 (zA σ12 12 2 (zI σ12 14 4))) (fun (x14 : Int) (σ15 : ZS) => (0 ≤ x14 ∧ x14 ≤ 1) ∧ Q x14 σ15))) := by
      intro x υ hx ug uo
      have ug5 := ug.g (f := 5) (v := x) hg
      refine ⟨hx, c_value ug5.1 ⟨ug5.1.at, ?_⟩⟩
      have ug4 := (ug5.g (f := 3) (v := zA (zsI υ g 5 x) 12 1 (zI (zsI υ g 5 x) 14 4)) hg).g (f := 4) (v := zA (zsI υ g 5 x) 12 2 (zI (zsI υ g 5 x) 14 4)) hg
      refine c_take ug4.1 (by decide) (fun e p => ⟨by decide, h1 _ (og.tr (ug4.on (by omega))) ?_⟩) (fun _ => ⟨by decide, h0 _ (og.tr ug4)⟩)
      have tk5 := ug5.1.tk
      simp only [zI_g (show (14 : Int) ≠ g by omega)] at e
      have e' : zA (zsI υ g 5 x) 12 0 (zI (zsI υ g 5 x) 14 4) = 3 := by
        rw [zI_g (show (14 : Int) ≠ g by omega)]
        exact e
      obtain ⟨t1, t2, t3, t4⟩ := tk5
      have t4' := t4 e'
      have e11 : zI (zsI υ g 5 x) 11 5 = zI υ 11 5 := zI_g (by omega)
      rw [e11] at t4'
      obtain ⟨⟨a1, a2, a3, a4, a5, a6, a7⟩, b⟩ := uo
      unfold OPI OPB
      simp only [zI_g (show (11 : Int) ≠ 14 by decide), zI_g (show g ≠ 14 by omega), zI_g (show (11 : Int) ≠ g by omega), zI_s, zI_f (show (0 : Nat) ≠ 4 by decide), zI_f (show (0 : Nat) ≠ 3 by decide), zI_f (show (0 : Nat) ≠ 5 by decide), zI_f (show (2 : Nat) ≠ 3 by decide), zI_f (show (2 : Nat) ≠ 4 by decide), zI_f (show (2 : Nat) ≠ 5 by decide), zI_f (show (3 : Nat) ≠ 4 by decide), zI_f (show (5 : Nat) ≠ 3 by decide), zI_f (show (5 : Nat) ≠ 4 by decide), zI_f (show (6 : Nat) ≠ 3 by decide), zI_f (show (6 : Nat) ≠ 4 by decide), zI_f (show (6 : Nat) ≠ 5 by decide), zI_f (show (7 : Nat) ≠ 3 by decide), zI_f (show (7 : Nat) ≠ 4 by decide), zI_f (show (7 : Nat) ≠ 5 by decide)]
      exact ⟨⟨a1, ⟨by omega, t4'⟩, fun _ => t3.1, by omega, hx, a6, a7⟩, b⟩
    exact c_take og.1 (by decide) (fun e p => fin 1 _ (by decide) ((OG.rf og.1).on (by omega)) (oi.k (ob_i (by decide)) (ob_i (by omega)))) (fun _ => fin 0 τ (by decide) (OG.rf og.1) oi)
  · have r := (og.g (f := 2) (v := zA τ 12 1 (zI τ 14 4)) hg).on (by
      rw [zI_g (show (14 : Int) ≠ g by omega)]
      show zA τ 12 0 (zI τ 14 4) ≠ 0
      omega)
    rw [zI_g (show (14 : Int) ≠ g by omega)] at r
    refine h1 _ r ⟨(oi.1.n2 hg).k (ob_i (by decide)) (ob_i (by omega)), ?_⟩
    rw [zI_g (by omega), zI_s]
    exact ht.2.1
theorem c_operand {g a : Int} {σ : ZS} {Q : Int → ZS → Prop} (hg : 5 ≤ g ∧ g ≤ 6) (h : PS σ) (h1 : ∀ τ : ZS, OG g σ τ → OPI τ g → Q 1 τ) (h0 : ∀ τ : ZS, OG g σ τ → Q 0 τ) : wpX8_operand g a σ Q := by
  have ht := h.tk
  have r0 := OG.rf (g := g) h
  have f143 : wpX8_operand_143 g a σ Q := by
    unfold wpX8_operand_143 wpX8_operand_161 wpX8_operand_162
    exact ⟨zand_bd _ _, fun _ => ⟨by decide, h0 _ r0⟩, fun _ => c_plainValue hg h (fun τ og oi => ⟨by decide, fun q => absurd q (by decide), fun _ => ⟨by decide, h1 τ og oi⟩⟩) (fun τ og => ⟨by decide, fun _ => ⟨by decide, h0 τ og⟩, fun q => absurd rfl q⟩)⟩
  have f100 : ∀ s : Int, zA σ 12 0 (zI σ 14 4) ≠ 0 → wpX8_operand_100 g a s σ Q := by
    intro s hn
    unfold wpX8_operand_100 wpX8_operand_121 wpX8_operand_122
    exact ⟨zand_bd _ _, fun _ => ⟨by decide, h0 _ r0⟩, fun _ => c_coded hg h (by decide) hn (fun τ og oi => ⟨by decide, fun q => absurd q (by decide), fun _ => ⟨by decide, h1 τ og oi⟩⟩)⟩
  unfold wpX8_operand wpX8_operand_83 wpX8_operand_84 wpX8_operand_141 wpX8_operand_142
  refine c_type h ⟨by have := ht.1; omega, fun _ => f143, fun _ => ⟨fun _ => f143, fun _ => ⟨fun e4 => ⟨fun _ => ⟨by decide, h0 _ r0⟩, fun _ => c_coded hg h (by decide) (by omega) (fun τ og oi => ⟨by decide, fun q => absurd q (by decide), fun _ => ⟨by decide, h1 τ og oi⟩⟩)⟩, fun _ => ⟨fun e5 => c_value h ⟨by have := ht.2.1; omega, fun _ => f100 8 (by omega), fun _ => f100 16 (by omega)⟩, fun _ => ⟨fun _ => f143, fun _ => ⟨fun e91 => ⟨zand_bd _ _, fun _ => ⟨by decide, h0 _ r0⟩, fun _ => c_brackets hg h (by omega) (fun τ og oi => ⟨by decide, fun q => absurd q (by decide), fun _ => ⟨by decide, h1 τ og oi⟩⟩) (fun τ og => ⟨by decide, fun _ => ⟨by decide, h0 τ og⟩, fun q => absurd rfl q⟩)⟩, fun _ => h0 _ r0⟩⟩⟩⟩⟩⟩
