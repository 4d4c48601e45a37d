/-! C: the class's side: objects and frames -/
abbrev OB : Type := (Nat → Int) × (Nat → Int → Int)
def ob (σ : ZS) (g : Int) : OB := (σ.1 g, σ.2 g)
theorem ob_i {σ : ZS} {g g' v : Int} {f : Nat} (h : g' ≠ g) : ob (zsI σ g f v) g' = ob σ g' := by
  unfold ob zsI
  refine Prod.ext (funext fun f' => ?_) rfl
  exact if_neg h
theorem ob_f {σ : ZS} {g g' : Int} {f : Nat} {k : Int → Int} (h : g' ≠ g) : ob (zsF σ g f k) g' = ob σ g' := by
  unfold ob zsF
  refine Prod.ext rfl (funext fun f' => ?_)
  exact if_neg h
theorem ob_a {σ : ZS} {g g' i v : Int} {f : Nat} (h : g' ≠ g) : ob (zsA σ g f i v) g' = ob σ g' := ob_f h
theorem ob_I {σ τ : ZS} {g : Int} (h : ob τ g = ob σ g) (f : Nat) : zI τ g f = zI σ g f := congrFun (congrArg Prod.fst h) f
theorem ob_A {σ τ : ZS} {g : Int} (h : ob τ g = ob σ g) (f : Nat) : zA τ g f = zA σ g f := congrFun (congrArg Prod.snd h) f
/-- what a step of the class may change: objects -/
def kp (G : List Int) (σ τ : ZS) : Prop := ∀ g : Int, g ∉ G → ob τ g = ob σ g
theorem kp.rf {G : List Int} {σ : ZS} : kp G σ σ := fun _ _ => rfl
theorem kp.tr {G : List Int} {σ τ υ : ZS} (h : kp G σ τ) (k : kp G τ υ) : kp G σ υ := fun g hg => (k g hg).trans (h g hg)
theorem kp.up {G G' : List Int} {σ τ : ZS} (h : kp G σ τ) (hs : ∀ g ∈ G, g ∈ G') : kp G' σ τ := fun g hg => h g (fun q => hg (hs g q))
theorem kp.i {G : List Int} {σ : ZS} {g v : Int} {f : Nat} (hg : g ∈ G) : kp G σ (zsI σ g f v) := fun g' h => ob_i (fun e => h (e ▸ hg))
theorem kp.a {G : List Int} {σ : ZS} {g i v : Int} {f : Nat} (hg : g ∈ G) : kp G σ (zsA σ g f i v) := fun g' h => ob_a (fun e => h (e ▸ hg))
theorem kp.ti {G : List Int} {σ τ : ZS} {g v : Int} {f : Nat} (h : kp G σ τ) (hg : g ∈ G) : kp G σ (zsI τ g f v) := h.tr (kp.i hg)
theorem kp.ta {G : List Int} {σ τ : ZS} {g i v : Int} {f : Nat} (h : kp G σ τ) (hg : g ∈ G) : kp G σ (zsA τ g f i v) := h.tr (kp.a hg)
theorem kp.I {G : List Int} {σ τ : ZS} {g : Int} (h : kp G σ τ) (hg : g ∉ G) (f : Nat) : zI τ g f = zI σ g f := ob_I (h g hg) f
theorem kp.A {G : List Int} {σ τ : ZS} {g : Int} (h : kp G σ τ) (hg : g ∉ G) (f : Nat) : zA τ g f = zA σ g f := ob_A (h g hg) f
theorem zI_s {σ : ZS} {g v : Int} {f : Nat} : zI (zsI σ g f v) g f = v := by
  show (if g = g then (if f = f then v else σ.1 g f) else σ.1 g f) = v
  rw [if_pos rfl, if_pos rfl]
theorem zI_f {σ : ZS} {g v : Int} {f f' : Nat} (h : f' ≠ f) : zI (zsI σ g f v) g f' = zI σ g f' := by
  show (if g = g then (if f' = f then v else σ.1 g f') else σ.1 g f') = _
  rw [if_pos rfl, if_neg h]; rfl
theorem zI_g {σ : ZS} {g g' v : Int} {f f' : Nat} (h : g' ≠ g) : zI (zsI σ g f v) g' f' = zI σ g' f' := if_neg h
theorem zA_s {σ : ZS} {g i v : Int} {f : Nat} : zA (zsA σ g f i v) g f = zu (zA σ g f) i v := by
  show (if g = g then (if f = f then zu (zA σ g f) i v else σ.2 g f) else σ.2 g f) = _
  rw [if_pos rfl, if_pos rfl]
theorem zA_f {σ : ZS} {g i v : Int} {f f' : Nat} (h : f' ≠ f) : zA (zsA σ g f i v) g f' = zA σ g f' := by
  show (if g = g then (if f' = f then zu (zA σ g f) i v else σ.2 g f') else σ.2 g f') = _
  rw [if_pos rfl, if_neg h]; rfl
theorem zA_g {σ : ZS} {g g' i v : Int} {f f' : Nat} (h : g' ≠ g) : zA (zsA σ g f i v) g' f' = zA σ g' f' := if_neg h
/-! the text -/
def TX (σ : ZS) : Prop := (0 ≤ zI σ 10 1 ∧ zI σ 10 1 ≤ 480) ∧ (∀ i : Int, 0 ≤ i → i < 480 → 0 ≤ zA σ 10 0 i ∧ zA σ 10 0 i ≤ 126) ∧ (∀ i : Int, 0 ≤ i → i < zI σ 10 1 → 32 ≤ zA σ 10 0 i)
theorem TX.k {σ τ : ZS} (h : TX σ) (e : ob τ 10 = ob σ 10) : TX τ := by
  have e1 := ob_I e; have e2 := ob_A e
  unfold TX; simp only [e1, e2]; exact h
/-! the names -/
def NR (σ : ZS) : Prop := ∀ n : Int, 0 ≤ n → n < 240 → (0 ≤ zA σ 11 0 n ∧ zA σ 11 0 n ≤ 4398046511103) ∧ (0 ≤ zA σ 11 1 n ∧ zA σ 11 1 n ≤ 3) ∧ (-1 ≤ zA σ 11 2 n ∧ zA σ 11 2 n ≤ 59) ∧ (0 ≤ zA σ 11 3 n ∧ zA σ 11 3 n ≤ 16) ∧ (0 ≤ zA σ 11 4 n ∧ zA σ 11 4 n ≤ 20000)
def NS (σ : ZS) : Prop := (0 ≤ zI σ 11 5 ∧ zI σ 11 5 ≤ 240) ∧ (-1 ≤ zI σ 11 6 ∧ zI σ 11 6 ≤ 480) ∧ (25 ≤ zI σ 11 5 → 0 ≤ zI σ 11 6)
def NF (σ : ZS) : Prop := ∀ n : Int, 0 ≤ n → n < zI σ 11 5 → zA σ 11 1 n = 0 ∧ zA σ 11 2 n = -1
theorem NR.k {σ τ : ZS} (h : NR σ) (e : ob τ 11 = ob σ 11) : NR τ := by
  have e2 := ob_A e
  unfold NR; simp only [e2]; exact h
theorem NS.k {σ τ : ZS} (h : NS σ) (e : ob τ 11 = ob σ 11) : NS τ := by
  have e1 := ob_I e
  unfold NS; simp only [e1]; exact h
theorem NF.k {σ τ : ZS} (h : NF σ) (e : ob τ 11 = ob σ 11) : NF τ := by
  have e1 := ob_I e; have e2 := ob_A e
  unfold NF; simp only [e1, e2]; exact h
/-! the tokens -/
def TK (N t v p : Int) : Prop := (0 ≤ t ∧ t ≤ 126) ∧ (0 ≤ v ∧ v ≤ 65536) ∧ (0 ≤ p ∧ p ≤ 480) ∧ (t = 3 → v < N)
def TI (σ : ZS) : Prop := (0 ≤ zI σ 12 3 ∧ zI σ 12 3 ≤ 481) ∧ (∀ i : Int, 0 ≤ i → i < zI σ 12 3 → TK (zI σ 11 5) (zA σ 12 0 i) (zA σ 12 1 i) (zA σ 12 2 i))
theorem TI.k {σ τ : ZS} (h : TI σ) (e : ob τ 11 = ob σ 11) (e' : ob τ 12 = ob σ 12) : TI τ := by
  have e1 := ob_I e; have e3 := ob_I e'; have e4 := ob_A e'
  unfold TI; simp only [e1, e3, e4]; exact h
