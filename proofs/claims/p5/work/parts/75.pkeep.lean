/-! P: what stands between calls, kept -/
theorem PA0.same {σ τ : ZS} (h : PA0 σ) (i : ∀ f : Nat, f ∈ [2, 8, 9, 10, 37, 38, 39, 41, 42] → zI τ 0 f = zI σ 0 f) (a : ∀ j : Nat, j ∈ [1, 11, 12, 13, 14, 15, 19, 20, 21, 22, 24, 25, 26, 27, 28, 30, 35] → zA τ 0 j = zA σ 0 j) : PA0 τ := by
  unfold PA0 Tx G1 G2 G3
  rw [i 2 (by decide), i 8 (by decide), i 9 (by decide), i 10 (by decide), i 37 (by decide), i 38 (by decide), i 39 (by decide), i 41 (by decide), i 42 (by decide), a 1 (by decide), a 11 (by decide), a 12 (by decide), a 13 (by decide), a 14 (by decide), a 15 (by decide), a 19 (by decide), a 20 (by decide), a 21 (by decide), a 22 (by decide), a 24 (by decide), a 25 (by decide), a 26 (by decide), a 27 (by decide), a 28 (by decide), a 30 (by decide), a 35 (by decide)]
  exact h
theorem IG.same {σ τ : ZS} (h : IG σ) (i : ∀ f : Nat, f ∈ [60, 62, 64, 65, 66] → zI τ 0 f = zI σ 0 f) (a : ∀ j : Nat, j ∈ [61, 63] → zA τ 0 j = zA σ 0 j) : IG τ := by
  unfold IG IM
  rw [i 60 (by decide), i 62 (by decide), i 64 (by decide), i 65 (by decide), i 66 (by decide), a 61 (by decide), a 63 (by decide)]
  exact h
theorem MM.same {σ τ : ZS} {N : Int} (h : MM σ N) (i : ∀ f : Nat, f ∈ [76, 78, 80, 81, 82, 83, 84] → zI τ 0 f = zI σ 0 f) (a : ∀ j : Nat, j ∈ MR → zA τ 0 j = zA σ 0 j) : MM τ N := by
  unfold MM
  rw [i 76 (by decide), i 78 (by decide), i 80 (by decide), i 81 (by decide), i 82 (by decide), i 83 (by decide), i 84 (by decide), a 74 (by decide), a 75 (by decide), a 79 (by decide)]
  exact h
theorem fr.in {fs as : List Nat} {σ τ : ZS} (h : fr fs as σ τ) {l : List Nat} (hd : ∀ f ∈ l, f ∉ fs) : ∀ f : Nat, f ∈ l → zI τ 0 f = zI σ 0 f := fun f hf => h.1 f (hd f hf)
theorem fr.an {fs as : List Nat} {σ τ : ZS} (h : fr fs as σ τ) {l : List Nat} (hd : ∀ f ∈ l, f ∉ as) : ∀ f : Nat, f ∈ l → zA τ 0 f = zA σ 0 f := fun f hf => h.2 f (hd f hf)
theorem RI.read {σ τ : ZS} {N : Int} (h : RI σ N) (f : fr [0] [] σ τ) : RI τ N := ⟨h.1.same (f.in (by decide)) (f.an (by decide)), h.2.1.up (f.2 16 (by decide)), h.2.2.1.up (f.an (by decide)), h.2.2.2.1.same (f.in (by decide)) (f.an (by decide)), h.2.2.2.2.same (f.in (by decide)) (f.an (by decide))⟩
theorem RI.mo {σ : ZS} {N M : Int} (h : RI σ N) (hN : N ≤ M) : RI σ M := ⟨h.1, h.2.1, h.2.2.1, h.2.2.2.1, h.2.2.2.2.mo hN⟩
theorem i_assemble {σ : ZS} {N a : Int} {Q : Int → ZS → Prop} (h : RI σ N) (ha : -2147483648 ≤ a ∧ a ≤ 2147483647) (hQ : ∀ (r : Int) (τ : ZS), RI τ N → zI τ 0 2 = (if 0 ≤ a ∧ a ≤ 2 then 0 else zI σ 0 2) → (0 ≤ r ∧ r ≤ 400) → Q r τ) : wpX11_assemble a σ Q := by
  obtain ⟨h1, h2, h3, h4, h5⟩ := h
  exact s_assemble ⟨h1, h2, h3.1, h3.2⟩ ha (fun r τ g f hr e => hQ r τ ⟨g.1, g.2.1, ⟨g.2.2.1, g.2.2.2⟩, h4.same (f.in (by decide)) (f.an (by decide)), h5.same (f.in (by decide)) (f.an (by decide))⟩ e hr)
theorem i_link {σ : ZS} {N : Int} {Q : Int → ZS → Prop} (h : RI σ N) (hQ : ∀ (r : Int) (τ : ZS), RI τ N → (zI τ 0 2 = zI σ 0 2 ∧ zA τ 0 1 = zA σ 0 1) → (0 ≤ r ∧ r ≤ 1200) → Q r τ) : wpX11_link σ Q := by
  obtain ⟨h1, h2, h3, h4, h5⟩ := h
  exact s_link h3 h4 (fun r τ g f hr => hQ r τ ⟨h1.same (f.in (by decide)) (f.an (by decide)), h2.up (f.2 16 (by decide)), h3.up (f.an (by decide)), g, h5.same (f.in (by decide)) (f.an (by decide))⟩ ⟨f.1 2 (by decide), f.2 1 (by decide)⟩ hr)
theorem i_run {σ : ZS} {N a : Int} {Q : Int → ZS → Prop} (h : RI σ N) (hN : 0 ≤ N ∧ N ≤ 900000) (ha : -2147483648 ≤ a ∧ a ≤ 2147483647) (hQ : ∀ (r : Int) (τ : ZS), RI τ (N + 400) → (zI τ 0 2 = zI σ 0 2 ∧ zA τ 0 1 = zA σ 0 1) → (0 ≤ r ∧ r ≤ 3) → Q r τ) : wpX11_run a σ Q := by
  obtain ⟨h1, h2, h3, h4, h5⟩ := h
  exact s_run h5 hN.2 ha hN.1 (fun r τ g f hr => hQ r τ ⟨h1.same (f.in (by decide)) (f.an (by decide)), h2.up (f.2 16 (by decide)), h3.up (f.an (by decide)), h4.same (f.in (by decide)) (f.an (by decide)), g⟩ ⟨f.1 2 (by decide), f.2 1 (by decide)⟩ hr)
theorem i_load {σ : ZS} {N a : Int} {Q : Int → ZS → Prop} (h : RI σ N) (hN : 0 ≤ N) (ha : -2147483648 ≤ a ∧ a ≤ 2147483647) (hQ : ∀ (r : Int) (τ : ZS), RI τ N → (zI τ 0 2 = zI σ 0 2 ∧ zA τ 0 1 = zA σ 0 1) → (0 ≤ r ∧ r ≤ 65535) → Q r τ) : wpX11_load a σ Q := by
  obtain ⟨h1, h2, h3, h4, h5⟩ := h
  exact s_load h4 h5 hN ha (fun r τ g f hr => hQ r τ ⟨h1.same (f.in (by decide)) (f.an (by decide)), h2.up (f.2 16 (by decide)), h3.up (f.an (by decide)), h4.same (f.in (by decide)) (f.an (by decide)), g⟩ ⟨f.1 2 (by decide), f.2 1 (by decide)⟩ hr)
