/-! C: the class's side: objects and frames -/
abbrev OB : Type := (Nat → Int) × (Nat → Int → Int)
def ob (σ : ZS) (g : Int) : OB := (σ.1 g, σ.2 g)
theorem ob_i {σ : ZS} {g g' v : Int} {f : Nat} (h : g' ≠ g) : ob (zsI σ g f v) g' = ob σ g' := by
  unfold ob zsI
  refine Prod.ext (funext fun f' => ?_) rfl
  exact if_neg h
theorem ob_f {σ : ZS} {g g' : Int} {f : Nat} {k : Int → Int} (h : g' ≠ g) : ob (zsF σ g f k) g' = ob σ g' := by
  unfold ob zsF
  refine Prod.ext rfl (funext fun f' => ?_)
  exact if_neg h
theorem ob_a {σ : ZS} {g g' i v : Int} {f : Nat} (h : g' ≠ g) : ob (zsA σ g f i v) g' = ob σ g' := ob_f h
theorem ob_I {σ τ : ZS} {g : Int} (h : ob τ g = ob σ g) (f : Nat) : zI τ g f = zI σ g f := congrFun (congrArg Prod.fst h) f
theorem ob_A {σ τ : ZS} {g : Int} (h : ob τ g = ob σ g) (f : Nat) : zA τ g f = zA σ g f := congrFun (congrArg Prod.snd h) f
/-- what a step of the class may change: objects -/
def kp (G : List Int) (σ τ : ZS) : Prop := ∀ g : Int, g ∉ G → ob τ g = ob σ g
theorem kp.rf {G : List Int} {σ : ZS} : kp G σ σ := fun _ _ => rfl
theorem kp.tr {G : List Int} {σ τ υ : ZS} (h : kp G σ τ) (k : kp G τ υ) : kp G σ υ := fun g hg => (k g hg).trans (h g hg)
theorem kp.up {G G' : List Int} {σ τ : ZS} (h : kp G σ τ) (hs : ∀ g ∈ G, g ∈ G') : kp G' σ τ := fun g hg => h g (fun q => hg (hs g q))
theorem kp.i {G : List Int} {σ : ZS} {g v : Int} {f : Nat} (hg : g ∈ G) : kp G σ (zsI σ g f v) := fun g' h => ob_i (fun e => h (e ▸ hg))
theorem kp.a {G : List Int} {σ : ZS} {g i v : Int} {f : Nat} (hg : g ∈ G) : kp G σ (zsA σ g f i v) := fun g' h => ob_a (fun e => h (e ▸ hg))
theorem kp.ti {G : List Int} {σ τ : ZS} {g v : Int} {f : Nat} (h : kp G σ τ) (hg : g ∈ G) : kp G σ (zsI τ g f v) := h.tr (kp.i hg)
theorem kp.ta {G : List Int} {σ τ : ZS} {g i v : Int} {f : Nat} (h : kp G σ τ) (hg : g ∈ G) : kp G σ (zsA τ g f i v) := h.tr (kp.a hg)
theorem kp.I {G : List Int} {σ τ : ZS} {g : Int} (h : kp G σ τ) (hg : g ∉ G) (f : Nat) : zI τ g f = zI σ g f := ob_I (h g hg) f
theorem kp.A {G : List Int} {σ τ : ZS} {g : Int} (h : kp G σ τ) (hg : g ∉ G) (f : Nat) : zA τ g f = zA σ g f := ob_A (h g hg) f
theorem zI_s {σ : ZS} {g v : Int} {f : Nat} : zI (zsI σ g f v) g f = v := by
  show (if g = g then (if f = f then v else σ.1 g f) else σ.1 g f) = v
  rw [if_pos rfl, if_pos rfl]
theorem zI_f {σ : ZS} {g v : Int} {f f' : Nat} (h : f' ≠ f) : zI (zsI σ g f v) g f' = zI σ g f' := by
  show (if g = g then (if f' = f then v else σ.1 g f') else σ.1 g f') = _
  rw [if_pos rfl, if_neg h]; rfl
theorem zI_g {σ : ZS} {g g' v : Int} {f f' : Nat} (h : g' ≠ g) : zI (zsI σ g f v) g' f' = zI σ g' f' := if_neg h
theorem zA_s {σ : ZS} {g i v : Int} {f : Nat} : zA (zsA σ g f i v) g f = zu (zA σ g f) i v := by
  show (if g = g then (if f = f then zu (zA σ g f) i v else σ.2 g f) else σ.2 g f) = _
  rw [if_pos rfl, if_pos rfl]
theorem zA_f {σ : ZS} {g i v : Int} {f f' : Nat} (h : f' ≠ f) : zA (zsA σ g f i v) g f' = zA σ g f' := by
  show (if g = g then (if f' = f then zu (zA σ g f) i v else σ.2 g f') else σ.2 g f') = _
  rw [if_pos rfl, if_neg h]; rfl
theorem zA_g {σ : ZS} {g g' i v : Int} {f f' : Nat} (h : g' ≠ g) : zA (zsA σ g f i v) g' f' = zA σ g' f' := if_neg h
/-! the text -/
def TX (σ : ZS) : Prop := (0 ≤ zI σ 10 1 ∧ zI σ 10 1 ≤ 480) ∧ (∀ i : Int, 0 ≤ i → i < 480 → 0 ≤ zA σ 10 0 i ∧ zA σ 10 0 i ≤ 126) ∧ (∀ i : Int, 0 ≤ i → i < zI σ 10 1 → 32 ≤ zA σ 10 0 i)
theorem TX.k {σ τ : ZS} (h : TX σ) (e : ob τ 10 = ob σ 10) : TX τ := by
  have e1 := ob_I e; have e2 := ob_A e
  unfold TX; simp only [e1, e2]; exact h
/-! the names -/
def NR (σ : ZS) : Prop := ∀ n : Int, 0 ≤ n → n < 240 → (0 ≤ zA σ 11 0 n ∧ zA σ 11 0 n ≤ 4398046511103) ∧ (0 ≤ zA σ 11 1 n ∧ zA σ 11 1 n ≤ 3) ∧ (-1 ≤ zA σ 11 2 n ∧ zA σ 11 2 n ≤ 59) ∧ (0 ≤ zA σ 11 3 n ∧ zA σ 11 3 n ≤ 16) ∧ (0 ≤ zA σ 11 4 n ∧ zA σ 11 4 n ≤ 20000)
def NS (σ : ZS) : Prop := (0 ≤ zI σ 11 5 ∧ zI σ 11 5 ≤ 240) ∧ (-1 ≤ zI σ 11 6 ∧ zI σ 11 6 ≤ 480) ∧ (25 ≤ zI σ 11 5 → 0 ≤ zI σ 11 6)
def NF (σ : ZS) : Prop := ∀ n : Int, 0 ≤ n → n < zI σ 11 5 → zA σ 11 1 n = 0 ∧ zA σ 11 2 n = -1
theorem NR.k {σ τ : ZS} (h : NR σ) (e : ob τ 11 = ob σ 11) : NR τ := by
  have e2 := ob_A e
  unfold NR; simp only [e2]; exact h
theorem NS.k {σ τ : ZS} (h : NS σ) (e : ob τ 11 = ob σ 11) : NS τ := by
  have e1 := ob_I e
  unfold NS; simp only [e1]; exact h
theorem NF.k {σ τ : ZS} (h : NF σ) (e : ob τ 11 = ob σ 11) : NF τ := by
  have e1 := ob_I e; have e2 := ob_A e
  unfold NF; simp only [e1, e2]; exact h
/-! the tokens -/
def TK (N t v p : Int) : Prop := (0 ≤ t ∧ t ≤ 126) ∧ (0 ≤ v ∧ v ≤ 65536) ∧ (0 ≤ p ∧ p ≤ 480) ∧ (t = 3 → v < N)
def TI (σ : ZS) : Prop := (0 ≤ zI σ 12 3 ∧ zI σ 12 3 ≤ 481) ∧ (∀ i : Int, 0 ≤ i → i < zI σ 12 3 → TK (zI σ 11 5) (zA σ 12 0 i) (zA σ 12 1 i) (zA σ 12 2 i))
theorem TI.k {σ τ : ZS} (h : TI σ) (e : ob τ 11 = ob σ 11) (e' : ob τ 12 = ob σ 12) : TI τ := by
  have e1 := ob_I e; have e3 := ob_I e'; have e4 := ob_A e'
  unfold TI; simp only [e1, e3, e4]; exact h
/-! C: reading tokens -/
theorem c_isLetter {a0 : Int} {σ : ZS} {Q : Int → ZS → Prop} (h : -2147483648 ≤ a0 ∧ a0 ≤ 2147483647) (h1 : cL a0 → Q 1 σ) (h0 : ¬ cL a0 → Q 0 σ) : wpX9_isLetter a0 σ Q := by
  unfold wpX9_isLetter wpX9_isLetter_16 wpX9_isLetter_17
  exact ⟨h, fun a => ⟨by decide, h0 (by unfold cL; omega)⟩, fun a => ⟨fun b => ⟨by decide, h0 (by unfold cL; omega)⟩, fun b => ⟨by decide, h1 (by unfold cL; omega)⟩⟩⟩
theorem c_isDigit {a0 : Int} {σ : ZS} {Q : Int → ZS → Prop} (h : -2147483648 ≤ a0 ∧ a0 ≤ 2147483647) (h1 : cD a0 → Q 1 σ) (h0 : ¬ cD a0 → Q 0 σ) : wpX9_isDigit a0 σ Q := by
  unfold wpX9_isDigit wpX9_isDigit_16 wpX9_isDigit_17
  exact ⟨h, fun a => ⟨by decide, h0 (by unfold cD; omega)⟩, fun a => ⟨fun b => ⟨by decide, h0 (by unfold cD; omega)⟩, fun b => ⟨by decide, h1 (by unfold cD; omega)⟩⟩⟩
theorem c_put {σ : ZS} {t v p : Int} {Q : ZS → Prop} (hT : TI σ) (hk : TK (zI σ 11 5) t v p) (hs : zI σ 12 3 ≤ 480) (hQ : ∀ τ : ZS, TI τ → kp [12] σ τ → zI τ 12 3 = zI σ 12 3 + 1 → zA τ 12 0 (zI σ 12 3) = t → Q τ) : wpX9_put t v p σ Q := by
  obtain ⟨hz, hi⟩ := hT
  unfold wpX9_put wpX9_put_52
  refine ⟨by omega, fun a => absurd a (by omega), fun _ => ⟨by omega, hQ _ ⟨?_, fun i i0 i1 => ?_⟩ ((((kp.rf.ta (by decide)).ta (by decide)).ta (by decide)).ti (by decide)) rfl ?_⟩⟩
  · show 0 ≤ zI σ 12 3 + 1 ∧ zI σ 12 3 + 1 ≤ 481
    omega
  · show TK (zI σ 11 5) (zu (zA σ 12 0) (zI σ 12 3) t i) (zu (zA σ 12 1) (zI σ 12 3) v i) (zu (zA σ 12 2) (zI σ 12 3) p i)
    have i1' : i < zI σ 12 3 + 1 := i1
    by_cases e : i = zI σ 12 3
    · rw [e, pu_eq, pu_eq, pu_eq]; exact hk
    · rw [pu_ne e, pu_ne e, pu_ne e]; exact hi i i0 (by omega)
  · show zu (zA σ 12 0) (zI σ 12 3) t (zI σ 12 3) = t
    exact pu_eq
theorem c_numberOf {σ : ZS} {w p : Int} {Q : Int → ZS → Prop} (hS : NS σ) (hR : NR σ) (hF : NF σ) (hw : 0 ≤ w ∧ w ≤ 4398046511103) (hp : 0 ≤ p ∧ p ≤ 480) (hQ : ∀ (x : Int) (τ : ZS), NS τ → NR τ → NF τ → kp [11] σ τ → zI σ 11 5 ≤ zI τ 11 5 → (0 ≤ x ∧ x < zI τ 11 5) → Q x τ) : wpX5_numberOf w p σ Q := by
  obtain ⟨s1, s2, s3⟩ := hS
  have nr : ∀ i : Int, 0 ≤ i → i < 240 → ((0 ≤ zu (zA σ 11 0) (zI σ 11 5) w i ∧ zu (zA σ 11 0) (zI σ 11 5) w i ≤ 4398046511103) ∧ (0 ≤ zu (zA σ 11 1) (zI σ 11 5) 0 i ∧ zu (zA σ 11 1) (zI σ 11 5) 0 i ≤ 3) ∧ (-1 ≤ zu (zA σ 11 2) (zI σ 11 5) (-1) i ∧ zu (zA σ 11 2) (zI σ 11 5) (-1) i ≤ 59) ∧ (0 ≤ zu (zA σ 11 3) (zI σ 11 5) 0 i ∧ zu (zA σ 11 3) (zI σ 11 5) 0 i ≤ 16) ∧ (0 ≤ zu (zA σ 11 4) (zI σ 11 5) 0 i ∧ zu (zA σ 11 4) (zI σ 11 5) 0 i ≤ 20000)) := by
    intro i i0 i1
    by_cases e : i = zI σ 11 5
    · rw [e, pu_eq, pu_eq, pu_eq, pu_eq, pu_eq]; exact ⟨hw, by decide, by decide, by decide, by decide⟩
    · rw [pu_ne e, pu_ne e, pu_ne e, pu_ne e, pu_ne e]; exact hR i i0 i1
  have nf : ∀ i : Int, 0 ≤ i → i < zI σ 11 5 + 1 → zu (zA σ 11 1) (zI σ 11 5) 0 i = 0 ∧ zu (zA σ 11 2) (zI σ 11 5) (-1) i = -1 := by
    intro i i0 i1
    by_cases e : i = zI σ 11 5
    · rw [e, pu_eq, pu_eq]; exact ⟨rfl, rfl⟩
    · rw [pu_ne e, pu_ne e]; exact hF i i0 (by omega)
  unfold wpX5_numberOf wpX5_numberOf_3
  refine lfp1_ind (fun v _ => (240 - v).toNat) (fun v τ => τ = σ ∧ 0 ≤ v ∧ v ≤ 240) (fun K v τ hI ih => ?_) ⟨rfl, by decide, by decide⟩
  obtain ⟨e, v0, v1⟩ := hI
  rw [e]
  unfold wpbX5_numberOf_3 wpX5_numberOf_121
  refine ⟨by omega, by omega, fun a => ⟨fun b => ⟨by omega, by omega, fun c => ?_, fun c => ?_⟩, fun b => hQ _ _ ⟨s1, s2, s3⟩ hR hF kp.rf (Int.le_refl _) (by omega)⟩, fun a => ⟨by omega, ?_, by omega, fun _ => ih _ _ ⟨rfl, by omega, by omega⟩ (by omega), fun _ => hQ _ _ ⟨s1, s2, s3⟩ hR hF kp.rf (Int.le_refl _) (by omega)⟩⟩
  · refine hQ _ _ ⟨?_, s2, ?_⟩ nr nf ((((((kp.rf.ta (by decide)).ta (by decide)).ta (by decide)).ta (by decide)).ta (by decide)).ti (by decide)) ?_ ?_
    · show 0 ≤ zI σ 11 5 + 1 ∧ zI σ 11 5 + 1 ≤ 240
      omega
    · show 25 ≤ zI σ 11 5 + 1 → 0 ≤ zI σ 11 6
      intro q; exact s3 (by omega)
    · show zI σ 11 5 ≤ zI σ 11 5 + 1
      omega
    · show 0 ≤ zI σ 11 5 + 1 - 1 ∧ zI σ 11 5 + 1 - 1 < zI σ 11 5 + 1
      omega
  · refine hQ _ _ ⟨?_, ?_, ?_⟩ nr nf (((((((kp.rf.ta (by decide)).ta (by decide)).ta (by decide)).ta (by decide)).ta (by decide)).ti (by decide)).ti (by decide)) ?_ ?_
    · show 0 ≤ zI σ 11 5 + 1 ∧ zI σ 11 5 + 1 ≤ 240
      omega
    · show -1 ≤ p ∧ p ≤ 480
      omega
    · show 25 ≤ zI σ 11 5 + 1 → 0 ≤ p
      intro q; exact hp.1
    · show zI σ 11 5 ≤ zI σ 11 5 + 1
      omega
    · show 0 ≤ zI σ 11 5 + 1 - 1 ∧ zI σ 11 5 + 1 - 1 < zI σ 11 5 + 1
      omega
  · have := (hR v v0 (by omega)).1
    omega
theorem c_readNumber {σ : ZS} {s L : Int} {Q : Int → ZS → Prop} (hX : TX σ) (hT : TI σ) (hb : 0 ≤ s ∧ s < L ∧ L ≤ 480) (hd : cD (zA σ 10 0 s)) (hs : zI σ 12 3 ≤ 480) (hQ : ∀ (x : Int) (τ : ZS), s < x → x ≤ L → TI τ → kp [12] σ τ → zI τ 12 3 = zI σ 12 3 + 1 → Q x τ) : wpX9_readNumber s L σ Q := by
  unfold wpX9_readNumber wpX9_readNumber_6
  have f48 : ∀ v4 v5 : Int, (0 ≤ v4 ∧ v4 ≤ 65536) → s < v5 → v5 ≤ L → wpX9_readNumber_48 s v4 v5 σ Q := by
    intro v4 v5 h4 h5 h6
    unfold wpX9_readNumber_48 wpX9_readNumber_61
    exact ⟨by omega, fun _ => c_put hT ⟨by decide, h4, by omega, fun q => absurd q (by decide)⟩ hs (fun τ a b c _ => hQ _ _ h5 h6 a b c), fun _ => c_put hT ⟨by decide, h4, by omega, fun q => absurd q (by decide)⟩ hs (fun τ a b c _ => hQ _ _ h5 h6 a b c)⟩
  refine lfp2_ind (fun _ v _ => (480 - v).toNat) (fun v4 v5 τ => τ = σ ∧ (0 ≤ v4 ∧ v4 ≤ 65536) ∧ s ≤ v5 ∧ v5 ≤ L) (fun K v4 v5 τ hI ih => ?_) ⟨rfl, by decide, by omega, by omega⟩
  obtain ⟨e, h4, h5, h6⟩ := hI
  rw [e]
  unfold wpbX9_readNumber_6
  refine ⟨by omega, by omega, fun a => f48 v4 v5 h4 (by omega) h6, fun a => ⟨by omega, ?_⟩⟩
  have hc := hX.2.1 v5 (by omega) (by omega)
  refine c_isDigit (by omega) (fun q => ⟨by decide, fun q' => absurd q' (by decide), fun _ => ?_⟩) (fun q => ⟨by decide, fun _ => f48 v4 v5 h4 (by
      by_cases e5 : v5 = s
      · rw [e5] at q; exact absurd hd q
      · omega) h6, fun q' => absurd rfl q'⟩)
  unfold cD at q
  exact ⟨by omega, ih _ _ _ ⟨rfl, by omega, by omega, by omega⟩ (by omega)⟩
def pkv (h : Int → Int) (s : Int) : Nat → Int
  | 0 => 0
  | n + 1 => pkv h s n * 128 + h (s + n)
theorem pkv_bd {h : Int → Int} {s : Int} : ∀ n : Nat, (∀ j : Int, s ≤ j → j < s + n → 0 ≤ h j ∧ h j < 128) → 0 ≤ pkv h s n ∧ pkv h s n < (128 : Int) ^ n
  | 0, _ => ⟨Int.le_refl 0, (by decide : (0 : Int) < 128 ^ 0)⟩
  | n + 1, hh => by
    have ih := pkv_bd n (fun j h1 h2 => hh j h1 (by omega))
    have hc := hh (s + n) (by omega) (by omega)
    show 0 ≤ pkv h s n * 128 + h (s + n) ∧ pkv h s n * 128 + h (s + n) < (128 : Int) ^ (n + 1)
    rw [Int.pow_succ]
    omega
theorem pkv_6 {h : Int → Int} {s : Int} {n : Nat} (hn : n ≤ 6) (hh : ∀ j : Int, s ≤ j → j < s + n → 0 ≤ h j ∧ h j < 128) : 0 ≤ pkv h s n ∧ pkv h s n ≤ 4398046511103 := by
  have a := pkv_bd n hh
  have b : ∀ k : Nat, k ≤ 6 → (128 : Int) ^ k ≤ 4398046511104 := by decide
  have c := b n hn
  omega
theorem zby_bd (k : Nat) (i : Int) : -2147483648 ≤ zby k i ∧ zby k i ≤ 2147483647 := by
  unfold zby
  have h1 := Int32.le_toInt ((zByt.getD k []).getD i.toNat 0)
  have h2 := Int32.toInt_lt ((zByt.getD k []).getD i.toNat 0)
  omega
theorem c_len0 {σ : ZS} {Q : Int → ZS → Prop} (h : Q 8 σ) : wpJ0_length_8abf5_S0 σ Q := by
  unfold wpJ0_length_8abf5_S0 wpJ0_coder_7d493_S0 wpJ0_coder_7d493_S0_14
  exact ⟨fun a => absurd a (by decide), fun _ => ⟨rfl, rfl, h⟩⟩
theorem c_lat0 {σ : ZS} {Q : Int → ZS → Prop} (h : Q 1 σ) : wpJ0_isLatin1_aae02_S0 σ Q := by
  unfold wpJ0_isLatin1_aae02_S0 wpJ0_isLatin1_aae02_S0_17 wpJ0_isLatin1_aae02_S0_18
  exact ⟨fun a => absurd a (by decide), fun _ => ⟨fun a => absurd rfl a, fun _ => ⟨by decide, h⟩⟩⟩
theorem c_len1 {σ : ZS} {Q : Int → ZS → Prop} (h : Q 23 σ) : wpJ0_length_8abf5_S1 σ Q := by
  unfold wpJ0_length_8abf5_S1 wpJ0_coder_7d493_S1 wpJ0_coder_7d493_S1_14
  exact ⟨fun a => absurd a (by decide), fun _ => ⟨rfl, rfl, h⟩⟩
theorem c_lat1 {σ : ZS} {Q : Int → ZS → Prop} (h : Q 1 σ) : wpJ0_isLatin1_aae02_S1 σ Q := by
  unfold wpJ0_isLatin1_aae02_S1 wpJ0_isLatin1_aae02_S1_17 wpJ0_isLatin1_aae02_S1_18
  exact ⟨fun a => absurd a (by decide), fun _ => ⟨fun a => absurd rfl a, fun _ => ⟨by decide, h⟩⟩⟩
theorem c_len2 {σ : ZS} {Q : Int → ZS → Prop} (h : Q 11 σ) : wpJ0_length_8abf5_S2 σ Q := by
  unfold wpJ0_length_8abf5_S2 wpJ0_coder_7d493_S2 wpJ0_coder_7d493_S2_14
  exact ⟨fun a => absurd a (by decide), fun _ => ⟨rfl, rfl, h⟩⟩
theorem c_lat2 {σ : ZS} {Q : Int → ZS → Prop} (h : Q 1 σ) : wpJ0_isLatin1_aae02_S2 σ Q := by
  unfold wpJ0_isLatin1_aae02_S2 wpJ0_isLatin1_aae02_S2_17 wpJ0_isLatin1_aae02_S2_18
  exact ⟨fun a => absurd a (by decide), fun _ => ⟨fun a => absurd rfl a, fun _ => ⟨by decide, h⟩⟩⟩
theorem c_len3 {σ : ZS} {Q : Int → ZS → Prop} (h : Q 155 σ) : wpJ0_length_8abf5_S3 σ Q := by
  unfold wpJ0_length_8abf5_S3 wpJ0_coder_7d493_S3 wpJ0_coder_7d493_S3_14
  exact ⟨fun a => absurd a (by decide), fun _ => ⟨rfl, rfl, h⟩⟩
theorem c_lat3 {σ : ZS} {Q : Int → ZS → Prop} (h : Q 1 σ) : wpJ0_isLatin1_aae02_S3 σ Q := by
  unfold wpJ0_isLatin1_aae02_S3 wpJ0_isLatin1_aae02_S3_17 wpJ0_isLatin1_aae02_S3_18
  exact ⟨fun a => absurd a (by decide), fun _ => ⟨fun a => absurd rfl a, fun _ => ⟨by decide, h⟩⟩⟩
theorem c_chr1 {σ : ZS} {i : Int} {Q : Int → ZS → Prop} (hi : 0 ≤ i ∧ i < 23) (h : Q (zby 1 i % 256 % 65536) σ) : wpJ0_charAt_5068e_S1 i σ Q := by
  unfold wpJ0_charAt_5068e_S1 wpJ1_charAt_3b067_S1 wpJ0_checkIndex_df160 wpJ3_checkIndex_8e157
  exact c_lat1 ⟨by decide, fun a => absurd a (by decide), fun _ => ⟨by omega, fun a => absurd a (by omega), fun _ => ⟨by decide, fun _ => ⟨hi, by omega, h⟩, fun a => absurd hi.2 a⟩⟩⟩
theorem c_ordinal1 {σ : ZS} {s e : Int} {Q : Int → ZS → Prop} (hX : TX σ) (hb : 0 ≤ s ∧ s ≤ e ∧ e ≤ 480) (hQ : ∀ x : Int, (-1 ≤ x ∧ x ≤ 200) → Q x σ) : wpX9_ordinal_S1 s e σ Q := by
  unfold wpX9_ordinal_S1 wpX9_ordinal_S1_12
  refine lfp4_ind (fun _ _ _ v _ => (24 - v).toNat) (fun v4 v5 v6 v7 τ => τ = σ ∧ (0 ≤ v4 ∧ v4 ≤ v7) ∧ (0 ≤ v5 ∧ v5 ≤ v7) ∧ (0 ≤ v6 ∧ v6 ≤ 1) ∧ (0 ≤ v7 ∧ v7 ≤ 24)) (fun K v4 v5 v6 v7 τ hI ih => ?_) ⟨rfl, by decide, by decide, by decide, by decide⟩
  obtain ⟨e0, h4, h5, h6, h7⟩ := hI
  rw [e0]
  have go : ∀ a b c : Int, v7 ≤ 23 → (0 ≤ a ∧ a ≤ v7 + 1) → (0 ≤ b ∧ b ≤ v7 + 1) → (0 ≤ c ∧ c ≤ 1) → K a b c (v7 + 1) σ := fun a b c q1 q2 q3 q4 => ih _ _ _ _ _ ⟨rfl, q2, q3, q4, by omega⟩ (by omega)
  have f41 : v7 ≤ 23 → wpX9_ordinal_S1_41 K s e v4 v5 v6 v7 σ Q := by
    intro q
    unfold wpX9_ordinal_S1_41 wpX9_ordinal_S1_57 wpX9_ordinal_S1_107
    exact ⟨by omega, fun _ => go _ _ _ q (by omega) (by omega) (by decide), fun _ => ⟨by omega, by omega, fun _ => go _ _ _ q (by omega) (by omega) (by decide), fun _ => hQ _ (by omega)⟩⟩
  have f102 : ∀ c : Int, (0 ≤ c ∧ c ≤ 1) → v7 ≤ 23 → wpX9_ordinal_S1_102 K s e v4 v5 v7 c σ Q := by
    intro c hc q
    unfold wpX9_ordinal_S1_102 wpX9_ordinal_S1_107
    exact go _ _ _ q (by omega) (by omega) hc
  unfold wpbX9_ordinal_S1_12 wpX9_ordinal_S1_101
  refine c_len1 ⟨by omega, by decide, fun _ => hQ _ (by decide), fun a => c_len1 ⟨by decide, fun _ => f41 (by omega), fun b => c_chr1 (by omega) ⟨by omega, fun _ => ⟨by omega, fun _ => f102 0 (by decide) (by omega), fun _ => ⟨by omega, by omega, fun _ => f102 0 (by decide) (by omega), fun d => ⟨by omega, c_chr1 (by omega) ⟨?_, by omega, fun _ => f102 0 (by decide) (by omega), fun _ => f102 1 (by decide) (by omega)⟩⟩⟩⟩, fun _ => f41 (by omega)⟩⟩⟩
  have := hX.2.1 (s + v5) (by omega) (by omega)
  omega
theorem c_chr2 {σ : ZS} {i : Int} {Q : Int → ZS → Prop} (hi : 0 ≤ i ∧ i < 11) (h : Q (zby 2 i % 256 % 65536) σ) : wpJ0_charAt_5068e_S2 i σ Q := by
  unfold wpJ0_charAt_5068e_S2 wpJ1_charAt_3b067_S2 wpJ0_checkIndex_df160 wpJ3_checkIndex_8e157
  exact c_lat2 ⟨by decide, fun a => absurd a (by decide), fun _ => ⟨by omega, fun a => absurd a (by omega), fun _ => ⟨by decide, fun _ => ⟨hi, by omega, h⟩, fun a => absurd hi.2 a⟩⟩⟩
theorem c_ordinal2 {σ : ZS} {s e : Int} {Q : Int → ZS → Prop} (hX : TX σ) (hb : 0 ≤ s ∧ s ≤ e ∧ e ≤ 480) (hQ : ∀ x : Int, (-1 ≤ x ∧ x ≤ 200) → Q x σ) : wpX9_ordinal_S2 s e σ Q := by
  unfold wpX9_ordinal_S2 wpX9_ordinal_S2_12
  refine lfp4_ind (fun _ _ _ v _ => (12 - v).toNat) (fun v4 v5 v6 v7 τ => τ = σ ∧ (0 ≤ v4 ∧ v4 ≤ v7) ∧ (0 ≤ v5 ∧ v5 ≤ v7) ∧ (0 ≤ v6 ∧ v6 ≤ 1) ∧ (0 ≤ v7 ∧ v7 ≤ 12)) (fun K v4 v5 v6 v7 τ hI ih => ?_) ⟨rfl, by decide, by decide, by decide, by decide⟩
  obtain ⟨e0, h4, h5, h6, h7⟩ := hI
  rw [e0]
  have go : ∀ a b c : Int, v7 ≤ 11 → (0 ≤ a ∧ a ≤ v7 + 1) → (0 ≤ b ∧ b ≤ v7 + 1) → (0 ≤ c ∧ c ≤ 1) → K a b c (v7 + 1) σ := fun a b c q1 q2 q3 q4 => ih _ _ _ _ _ ⟨rfl, q2, q3, q4, by omega⟩ (by omega)
  have f41 : v7 ≤ 11 → wpX9_ordinal_S2_41 K s e v4 v5 v6 v7 σ Q := by
    intro q
    unfold wpX9_ordinal_S2_41 wpX9_ordinal_S2_57 wpX9_ordinal_S2_107
    exact ⟨by omega, fun _ => go _ _ _ q (by omega) (by omega) (by decide), fun _ => ⟨by omega, by omega, fun _ => go _ _ _ q (by omega) (by omega) (by decide), fun _ => hQ _ (by omega)⟩⟩
  have f102 : ∀ c : Int, (0 ≤ c ∧ c ≤ 1) → v7 ≤ 11 → wpX9_ordinal_S2_102 K s e v4 v5 v7 c σ Q := by
    intro c hc q
    unfold wpX9_ordinal_S2_102 wpX9_ordinal_S2_107
    exact go _ _ _ q (by omega) (by omega) hc
  unfold wpbX9_ordinal_S2_12 wpX9_ordinal_S2_101
  refine c_len2 ⟨by omega, by decide, fun _ => hQ _ (by decide), fun a => c_len2 ⟨by decide, fun _ => f41 (by omega), fun b => c_chr2 (by omega) ⟨by omega, fun _ => ⟨by omega, fun _ => f102 0 (by decide) (by omega), fun _ => ⟨by omega, by omega, fun _ => f102 0 (by decide) (by omega), fun d => ⟨by omega, c_chr2 (by omega) ⟨?_, by omega, fun _ => f102 0 (by decide) (by omega), fun _ => f102 1 (by decide) (by omega)⟩⟩⟩⟩, fun _ => f41 (by omega)⟩⟩⟩
  have := hX.2.1 (s + v5) (by omega) (by omega)
  omega
theorem c_chr3 {σ : ZS} {i : Int} {Q : Int → ZS → Prop} (hi : 0 ≤ i ∧ i < 155) (h : Q (zby 3 i % 256 % 65536) σ) : wpJ0_charAt_5068e_S3 i σ Q := by
  unfold wpJ0_charAt_5068e_S3 wpJ1_charAt_3b067_S3 wpJ0_checkIndex_df160 wpJ3_checkIndex_8e157
  exact c_lat3 ⟨by decide, fun a => absurd a (by decide), fun _ => ⟨by omega, fun a => absurd a (by omega), fun _ => ⟨by decide, fun _ => ⟨hi, by omega, h⟩, fun a => absurd hi.2 a⟩⟩⟩
theorem c_ordinal3 {σ : ZS} {s e : Int} {Q : Int → ZS → Prop} (hX : TX σ) (hb : 0 ≤ s ∧ s ≤ e ∧ e ≤ 480) (hQ : ∀ x : Int, (-1 ≤ x ∧ x ≤ 200) → Q x σ) : wpX9_ordinal_S3 s e σ Q := by
  unfold wpX9_ordinal_S3 wpX9_ordinal_S3_12
  refine lfp4_ind (fun _ _ _ v _ => (156 - v).toNat) (fun v4 v5 v6 v7 τ => τ = σ ∧ (0 ≤ v4 ∧ v4 ≤ v7) ∧ (0 ≤ v5 ∧ v5 ≤ v7) ∧ (0 ≤ v6 ∧ v6 ≤ 1) ∧ (0 ≤ v7 ∧ v7 ≤ 156)) (fun K v4 v5 v6 v7 τ hI ih => ?_) ⟨rfl, by decide, by decide, by decide, by decide⟩
  obtain ⟨e0, h4, h5, h6, h7⟩ := hI
  rw [e0]
  have go : ∀ a b c : Int, v7 ≤ 155 → (0 ≤ a ∧ a ≤ v7 + 1) → (0 ≤ b ∧ b ≤ v7 + 1) → (0 ≤ c ∧ c ≤ 1) → K a b c (v7 + 1) σ := fun a b c q1 q2 q3 q4 => ih _ _ _ _ _ ⟨rfl, q2, q3, q4, by omega⟩ (by omega)
  have f41 : v7 ≤ 155 → wpX9_ordinal_S3_41 K s e v4 v5 v6 v7 σ Q := by
    intro q
    unfold wpX9_ordinal_S3_41 wpX9_ordinal_S3_57 wpX9_ordinal_S3_107
    exact ⟨by omega, fun _ => go _ _ _ q (by omega) (by omega) (by decide), fun _ => ⟨by omega, by omega, fun _ => go _ _ _ q (by omega) (by omega) (by decide), fun _ => hQ _ (by omega)⟩⟩
  have f102 : ∀ c : Int, (0 ≤ c ∧ c ≤ 1) → v7 ≤ 155 → wpX9_ordinal_S3_102 K s e v4 v5 v7 c σ Q := by
    intro c hc q
    unfold wpX9_ordinal_S3_102 wpX9_ordinal_S3_107
    exact go _ _ _ q (by omega) (by omega) hc
  unfold wpbX9_ordinal_S3_12 wpX9_ordinal_S3_101
  refine c_len3 ⟨by omega, by decide, fun _ => hQ _ (by decide), fun a => c_len3 ⟨by decide, fun _ => f41 (by omega), fun b => c_chr3 (by omega) ⟨by omega, fun _ => ⟨by omega, fun _ => f102 0 (by decide) (by omega), fun _ => ⟨by omega, by omega, fun _ => f102 0 (by decide) (by omega), fun d => ⟨by omega, c_chr3 (by omega) ⟨?_, by omega, fun _ => f102 0 (by decide) (by omega), fun _ => f102 1 (by decide) (by omega)⟩⟩⟩⟩, fun _ => f41 (by omega)⟩⟩⟩
  have := hX.2.1 (s + v5) (by omega) (by omega)
  omega
theorem c_indexOf {σ : ZS} {c : Int} {Q : Int → ZS → Prop} (hc : 0 ≤ c ∧ c ≤ 126) (hQ : ∀ x : Int, (-1 ≤ x ∧ x ≤ 8) → Q x σ) : wpJ0_indexOf_0f7a4_S0 c σ Q := by
  have m0 : max (0 : Int) 0 = 0 := by decide
  have m8 : min (8 : Int) 8 = 8 := by decide
  unfold wpJ0_indexOf_0f7a4_S0 wpJ0_indexOf_7cf53_S0 wpJ0_indexOf_7cf53_S0_36
  refine c_lat0 ⟨by decide, fun a => absurd a (by decide), fun _ => c_len0 ?_⟩
  unfold wpJ1_indexOf_4cfef_S0 wpJ1_canEncode_9a6ad wpJ1_canEncode_9a6ad_15 wpJ1_canEncode_9a6ad_16
  rw [m0, m8]
  refine ⟨by omega, fun a => absurd a (by omega), fun _ => ⟨fun a => absurd a (by omega), fun _ => ⟨by decide, by decide, fun _ => ⟨by decide, by decide, by decide, by decide, fun _ => ?_, fun a => absurd (by decide) a⟩, fun a => absurd a (by decide)⟩⟩⟩
  unfold wpJ1_indexOfChar_4cfef_S0 wpJ1_indexOfChar_4cfef_S0_7
  refine lfp1_ind (fun v _ => (9 - v).toNat) (fun v τ => τ = σ ∧ (0 ≤ v ∧ v ≤ 8)) (fun K v τ hI ih => ?_) ⟨rfl, by decide, by decide⟩
  obtain ⟨e0, h⟩ := hI
  rw [e0]
  unfold wpbJ1_indexOfChar_4cfef_S0_7
  exact ⟨by omega, by decide, fun _ => hQ _ (by decide), fun _ => ⟨by omega, zby_bd _ _, by omega, fun _ => ih _ _ ⟨rfl, by omega⟩ (by omega), fun _ => hQ _ (by omega)⟩⟩
/-- what stands while tokens are read -/
def RD (σ : ZS) : Prop := NS σ ∧ NR σ ∧ NF σ ∧ TI σ
theorem TI.mo {σ τ : ZS} (h : TI σ) (e : ob τ 12 = ob σ 12) (hn : zI σ 11 5 ≤ zI τ 11 5) : TI τ := by
  have e3 := ob_I e; have e4 := ob_A e
  unfold TI; simp only [e3, e4]
  refine ⟨h.1, fun i i0 i1 => ?_⟩
  obtain ⟨a, b, c, d⟩ := h.2 i i0 i1
  exact ⟨a, b, c, fun q => by have := d q; omega⟩
theorem c_readWord {σ : ZS} {s L : Int} {Q : Int → ZS → Prop} (hX : TX σ) (hR : RD σ) (hb : 0 ≤ s ∧ s < L ∧ L ≤ 480) (hd : cL (zA σ 10 0 s)) (hs : zI σ 12 3 ≤ 480) (hQ : ∀ (x : Int) (τ : ZS), s < x → x ≤ L → RD τ → kp [11, 12] σ τ → zI τ 12 3 = zI σ 12 3 + 1 → Q x τ) : wpX9_readWord s L σ Q := by
  obtain ⟨rS, rR, rF, rT⟩ := hR
  unfold wpX9_readWord wpX9_readWord_6
  have f144 : ∀ (v4 v7 v8 : Int) (υ : ZS), s < v4 → v4 ≤ L → RD υ → kp [11, 12] σ υ → zI υ 12 3 = zI σ 12 3 → TK (zI υ 11 5) v7 v8 s → wpX9_readWord_144 s v4 v7 v8 υ Q := by
    intro v4 v7 v8 υ h1 h2 hr hk hz ht
    obtain ⟨uS, uR, uF, uT⟩ := hr
    unfold wpX9_readWord_144
    exact c_put uT ht (by omega) (fun τ a b c _ => hQ _ _ h1 h2 ⟨uS.k (b 11 (by decide)), uR.k (b 11 (by decide)), uF.k (b 11 (by decide)), a⟩ (hk.tr (b.up (by decide))) (by omega))
  have f124 : ∀ v4 v5 v7 v8 : Int, s < v4 → v4 ≤ L → (0 ≤ v5 ∧ v5 ≤ 4398046511103) → (4 ≤ v7 ∧ v7 ≤ 6) → (-1 ≤ v8 ∧ v8 ≤ 200) → wpX9_readWord_124 s v4 v5 v7 v8 σ Q := by
    intro v4 v5 v7 v8 h1 h2 h5 h7 h8
    unfold wpX9_readWord_124
    refine ⟨by omega, fun a => f144 _ _ _ _ h1 h2 ⟨rS, rR, rF, rT⟩ kp.rf rfl ⟨by omega, by omega, by omega, fun q => absurd q (by omega)⟩, fun a => c_numberOf rS rR rF h5 (by omega) (fun x τ aS aR aF ak an ax => ?_)⟩
    have e12 := ak 12 (by decide)
    exact f144 _ _ _ _ h1 h2 ⟨aS, aR, aF, rT.mo e12 an⟩ (ak.up (by decide)) (ob_I e12 3) ⟨by decide, by have := aS.1; omega, by omega, fun _ => ax.2⟩
  have f104 : ∀ v4 v5 v7 v8 : Int, s < v4 → v4 ≤ L → (0 ≤ v5 ∧ v5 ≤ 4398046511103) → (4 ≤ v7 ∧ v7 ≤ 6) → (-1 ≤ v8 ∧ v8 ≤ 200) → wpX9_readWord_104 s v4 v5 v7 v8 σ Q := by
    intro v4 v5 v7 v8 h1 h2 h5 h7 h8
    unfold wpX9_readWord_104
    exact ⟨by omega, fun a => f124 _ _ _ _ h1 h2 h5 h7 h8, fun a => c_ordinal3 hX (by omega) (fun x hx => f124 _ _ _ _ h1 h2 h5 (by decide) hx)⟩
  have f52 : ∀ v4 v5 : Int, s < v4 → v4 ≤ L → v5 = pkv (zA σ 10 0) s (v4 - s).toNat → wpX9_readWord_52 s v4 v5 σ Q := by
    intro v4 v5 h1 h2 h5
    unfold wpX9_readWord_52
    refine ⟨by omega, fun a => ?_, fun a => c_put rT ⟨by decide, by decide, by omega, fun q => absurd q (by decide)⟩ hs (fun τ a b c _ => hQ _ _ h1 h2 ⟨rS.k (b 11 (by decide)), rR.k (b 11 (by decide)), rF.k (b 11 (by decide)), a⟩ (b.up (by decide)) c)⟩
    have h5' : 0 ≤ v5 ∧ v5 ≤ 4398046511103 := by
      rw [h5]
      exact pkv_6 (by omega) (fun j j0 j1 => by have := hX.2.1 j (by omega) (by omega); omega)
    exact c_ordinal1 hX (by omega) (fun x hx => ⟨by omega, fun _ => f104 _ _ _ _ h1 h2 h5' (by decide) hx, fun _ => c_ordinal2 hX (by omega) (fun y hy => f104 _ _ _ _ h1 h2 h5' (by decide) hy)⟩)
  refine lfp2_ind (fun v _ _ => (480 - v).toNat) (fun v4 v5 τ => τ = σ ∧ v5 = pkv (zA σ 10 0) s (v4 - s).toNat ∧ s ≤ v4 ∧ v4 ≤ L) (fun K v4 v5 τ hI ih => ?_) ⟨rfl, by rw [Int.sub_self]; rfl, by omega, by omega⟩
  obtain ⟨e, h5, h4, h6⟩ := hI
  rw [e]
  have f32 : v4 < L → wpX9_readWord_32 K s L v4 v5 σ Q := by
    intro q
    have hc := hX.2.1 v4 (by omega) (by omega)
    unfold wpX9_readWord_32
    refine ⟨by omega, by omega, ih _ _ _ ⟨rfl, ?_, by omega, by omega⟩ (by omega)⟩
    rw [show (v4 + 1 - s).toNat = (v4 - s).toNat + 1 by omega]
    show v5 * 128 + zA σ 10 0 v4 = pkv (zA σ 10 0) s (v4 - s).toNat * 128 + zA σ 10 0 (s + ((v4 - s).toNat : Nat))
    rw [← h5, show s + (((v4 - s).toNat : Nat) : Int) = v4 by omega]
  unfold wpbX9_readWord_6
  refine ⟨by omega, by omega, fun a => f52 v4 v5 (by omega) h6 h5, fun a => ⟨by omega, ?_⟩⟩
  have hc := hX.2.1 v4 (by omega) (by omega)
  refine c_isLetter (by omega) (fun q => ⟨by decide, fun _ => f32 (by omega), fun q' => absurd q' (by decide)⟩) (fun q => ⟨by decide, fun q' => absurd rfl q', fun _ => ?_⟩)
  refine c_isDigit (by omega) (fun q2 => ⟨by decide, fun q' => absurd q' (by decide), fun _ => f32 (by omega)⟩) (fun q2 => ⟨by decide, fun _ => f52 v4 v5 ?_ h6 h5, fun q' => absurd rfl q'⟩)
  by_cases e5 : v4 = s
  · rw [e5] at q; exact absurd hd q
  · omega
/-- the tokens of a text end with an end -/
theorem c_read {σ : ZS} {L : Int} {Q : ZS → Prop} (hX : TX σ) (hN : NR σ) (hL : L = zI σ 10 1) (hQ : ∀ τ : ZS, RD τ → kp [11, 12] σ τ → (1 ≤ zI τ 12 3 ∧ zA τ 12 0 (zI τ 12 3 - 1) = 0) → Q τ) : wpX9_read L σ Q := by
  have hl := hX.1
  unfold wpX9_read wpX5_clear wpX9_read_17
  have f109 : ∀ τ : ZS, RD τ → kp [11, 12] σ τ → zI τ 12 3 ≤ 480 → wpX9_read_109 L τ Q := by
    intro τ ⟨uS, uR, uF, uT⟩ hk hz
    unfold wpX9_read_109
    refine c_put uT ⟨by decide, by decide, by omega, fun q => absurd q (by decide)⟩ hz (fun υ a b c d => hQ υ ⟨uS.k (b 11 (by decide)), uR.k (b 11 (by decide)), uF.k (b 11 (by decide)), a⟩ (hk.tr (b.up (by decide))) ⟨?_, ?_⟩)
    · have := uT.1; omega
    · rw [c, show zI τ 12 3 + 1 - 1 = zI τ 12 3 by omega]; exact d
  refine lfp2_ind (fun _ v _ => (480 - v).toNat) (fun v3 v4 τ => RD τ ∧ kp [11, 12] σ τ ∧ zI τ 12 3 ≤ v3 ∧ (0 ≤ v3 ∧ v3 ≤ L) ∧ 0 ≤ v4 ∧ v4 ≤ L) (fun K v3 v4 τ hI ih => ?_) ⟨⟨⟨(show (0 : Int) ≤ 0 ∧ (0 : Int) ≤ 240 by decide), (show (-1 : Int) ≤ -1 ∧ (-1 : Int) ≤ 480 by decide), fun q => absurd (show (25 : Int) ≤ 0 from q) (by decide)⟩, hN, fun n n0 n1 => ?_, ⟨(show (0 : Int) ≤ 0 ∧ (0 : Int) ≤ 481 by decide), fun i i0 i1 => ?_⟩⟩, ((kp.rf.ti (by decide)).ti (by decide)).ti (by decide), (show (0 : Int) ≤ 0 by decide), by omega, by omega⟩
  · obtain ⟨hr, hk, hz, h3, h4⟩ := hI
    have e10 := hk 10 (by decide)
    have hX' : TX τ := hX.k e10
    unfold wpbX9_read_17
    refine ⟨by omega, by omega, fun _ => f109 τ hr hk (by omega), fun a => ⟨by omega, fun _ => f109 τ hr hk (by omega), fun b => ⟨by omega, ?_⟩⟩⟩
    have hc := hX'.2.1 v3 (by omega) (by omega)
    have go : ∀ (x : Int) (υ : ZS), v3 < x → x ≤ L → RD υ → kp [11, 12] τ υ → zI υ 12 3 ≤ zI τ 12 3 + 1 → K x (v4 + 1) υ := fun x υ x0 x1 ur uk uz => ih _ _ _ ⟨ur, hk.tr uk, by omega, by omega, by omega⟩ (by omega)
    have f95 : ∀ t : Int, (0 ≤ t ∧ t ≤ 126) → t ≠ 3 → wpX9_read_95 K L v3 v4 t τ Q := by
      intro t ht h3'
      obtain ⟨uS, uR, uF, uT⟩ := hr
      unfold wpX9_read_95 wpX9_read_100 wpX9_read_103
      exact c_put uT ⟨ht, by decide, by omega, fun q => absurd q h3'⟩ (by omega) (fun υ a b c _ => go _ _ (by omega) (by omega) ⟨uS.k (b 11 (by decide)), uR.k (b 11 (by decide)), uF.k (b 11 (by decide)), a⟩ (b.up (by decide)) (by omega))
    refine c_isLetter (by omega) (fun q => ⟨by decide, fun q' => absurd q' (by decide), fun _ => ?_⟩) (fun q => ⟨by decide, fun _ => ?_, fun q' => absurd rfl q'⟩)
    · unfold wpX9_read_103
      exact c_readWord hX' hr (by omega) q (by omega) (fun x υ x0 x1 ur uk uz => go _ _ x0 x1 ur uk (by omega))
    · refine c_isDigit (by omega) (fun q => ⟨by decide, fun q' => absurd q' (by decide), fun _ => ?_⟩) (fun q => ⟨by decide, fun _ => ⟨by omega, fun _ => ?_, fun n32 => ?_⟩, fun q' => absurd rfl q'⟩)
      · unfold wpX9_read_103
        obtain ⟨uS, uR, uF, uT⟩ := hr
        exact c_readNumber hX' uT (by omega) q (by omega) (fun x υ x0 x1 ut uk uz => go _ _ x0 x1 ⟨uS.k (uk 11 (by decide)), uR.k (uk 11 (by decide)), uF.k (uk 11 (by decide)), ut⟩ (uk.up (by decide)) (by omega))
      · unfold wpX9_read_100 wpX9_read_103
        exact go _ _ (by omega) (by omega) hr kp.rf (by omega)
      · have h32 := hX'.2.2 v3 (by omega) (by rw [ob_I e10 1]; omega)
        exact c_indexOf (by omega) (fun x hx => ⟨by omega, fun _ => f95 1 (by decide) (by decide), fun _ => f95 _ (by omega) (by omega)⟩)
  · have n1' : n < 0 := n1
    omega
  · have i1' : i < 0 := i1
    omega
/-! C: the parser's small steps -/
def al (v : Int) : Prop := v = 1 ∨ v = 2 ∨ v = 4 ∨ v = 8 ∨ v = 16
def IT (N t v n p w : Int) : Prop := (0 ≤ t ∧ t ≤ 12) ∧ (0 ≤ v ∧ v ≤ 65536) ∧ (-1 ≤ n ∧ n < N) ∧ (-1 ≤ p ∧ p ≤ 480) ∧ (-1 ≤ w ∧ w ≤ 480) ∧ (t ≠ 4 → t ≠ 5 → t ≠ 6 → 0 ≤ n) ∧ (0 ≤ n → 0 ≤ p) ∧ (t = 5 → v ≤ 64) ∧ (t = 9 → v = 2) ∧ (t = 0 ∨ t = 10 ∨ t = 12 → (t = 0 → al v) ∧ (t = 10 → 0 ≤ w) ∧ (t = 12 → v = 0))
/-- the same, where jumps may have grown -/
def ITw (N t v n p w : Int) : Prop := (0 ≤ t ∧ t ≤ 12) ∧ (0 ≤ v ∧ v ≤ 65536) ∧ (-1 ≤ n ∧ n < N) ∧ (-1 ≤ p ∧ p ≤ 480) ∧ (-1 ≤ w ∧ w ≤ 480) ∧ (t ≠ 4 → t ≠ 5 → t ≠ 6 → 0 ≤ n) ∧ (0 ≤ n → 0 ≤ p) ∧ (t = 5 → v ≤ 64) ∧ (t = 9 → 2 ≤ v ∧ v ≤ 3) ∧ (t = 0 ∨ t = 10 ∨ t = 12 → (t = 0 → al v) ∧ (t = 10 → 0 ≤ w) ∧ (t = 12 → v = 0))
def DI (σ : ZS) : Prop := (0 ≤ zI σ 13 7 ∧ zI σ 13 7 ≤ 248) ∧ (∀ i : Int, 0 ≤ i → i < zI σ 13 7 → IT (zI σ 11 5) (zA σ 13 0 i) (zA σ 13 1 i) (zA σ 13 2 i) (zA σ 13 3 i) (zA σ 13 4 i)) ∧ (∀ i : Int, 0 ≤ i → i < zI σ 13 7 → 0 ≤ zA σ 13 6 i ∧ zA σ 13 6 i ≤ 20000)
def DIw (σ : ZS) : Prop := (0 ≤ zI σ 13 7 ∧ zI σ 13 7 ≤ 248) ∧ (∀ i : Int, 0 ≤ i → i < zI σ 13 7 → ITw (zI σ 11 5) (zA σ 13 0 i) (zA σ 13 1 i) (zA σ 13 2 i) (zA σ 13 3 i) (zA σ 13 4 i)) ∧ (∀ i : Int, 0 ≤ i → i < zI σ 13 7 → 0 ≤ zA σ 13 6 i ∧ zA σ 13 6 i ≤ 20000)
theorem DI.w {σ : ZS} (h : DI σ) : DIw σ := ⟨h.1, fun i i0 i1 => by
  obtain ⟨i1, i2, i3, i4, i5, i6, i7, i8, i9, i10⟩ := h.2.1 i i0 i1
  exact ⟨i1, i2, i3, i4, i5, i6, i7, i8, fun q => by have := i9 q; omega, i10⟩, h.2.2⟩
def DO (σ : ZS) : Prop := (∀ i : Int, 0 ≤ i → i < zI σ 13 7 → zA σ 13 0 i = 0 ∨ zA σ 13 0 i = 2 ∨ zA σ 13 0 i = 3 ∨ ∃ j : Int, 0 ≤ j ∧ j < i ∧ zA σ 13 0 j = 0) ∧ (zI σ 14 5 ≠ 0 → zI σ 13 7 = 248 ∨ ∃ j : Int, 0 ≤ j ∧ j < zI σ 13 7 ∧ zA σ 13 0 j = 0)
def PS (σ : ZS) : Prop := TI σ ∧ (1 ≤ zI σ 12 3 ∧ zA σ 12 0 (zI σ 12 3 - 1) = 0) ∧ (0 ≤ zI σ 14 4 ∧ zI σ 14 4 ≤ zI σ 12 3 - 1) ∧ (0 ≤ zI σ 14 5 ∧ zI σ 14 5 ≤ 1) ∧ DI σ ∧ DO σ ∧ (0 ≤ zI σ 11 5 ∧ zI σ 11 5 ≤ 240)
theorem DI.k {σ τ : ZS} (h : DI σ) (e : ob τ 11 = ob σ 11) (e' : ob τ 13 = ob σ 13) : DI τ := by
  have e1 := ob_I e; have e3 := ob_I e'; have e4 := ob_A e'
  unfold DI; simp only [e1, e3, e4]; exact h
theorem DO.k {σ τ : ZS} (h : DO σ) (e' : ob τ 13 = ob σ 13) (e5 : zI τ 14 5 = zI σ 14 5) : DO τ := by
  have e3 := ob_I e'; have e4 := ob_A e'
  unfold DO; simp only [e3, e4, e5]; exact h
theorem PS.mv {σ τ : ZS} (h : PS σ) (e11 : ob τ 11 = ob σ 11) (e12 : ob τ 12 = ob σ 12) (e13 : ob τ 13 = ob σ 13) (e5 : zI τ 14 5 = zI σ 14 5) (ha : 0 ≤ zI τ 14 4 ∧ zI τ 14 4 ≤ zI σ 12 3 - 1) : PS τ := by
  obtain ⟨h1, h2, h3, h4, h5, h6, h7⟩ := h
  refine ⟨h1.k e11 e12, ?_, ?_, ?_, h5.k e11 e13, h6.k e13 e5, by rw [ob_I e11 5]; exact h7⟩
  · rw [ob_I e12 3, ob_A e12 0]; exact h2
  · rw [ob_I e12 3]; exact ha
  · rw [e5]; exact h4
theorem PS.k {σ τ : ZS} {G : List Int} (h : PS σ) (k : kp G σ τ) (h11 : (11 : Int) ∉ G) (h12 : (12 : Int) ∉ G) (h13 : (13 : Int) ∉ G) (h14 : (14 : Int) ∉ G) : PS τ := h.mv (k 11 h11) (k 12 h12) (k 13 h13) (k.I h14 5) (by rw [k.I h14 4]; exact h.2.2.1)
theorem PS.tk {σ : ZS} (h : PS σ) : TK (zI σ 11 5) (zA σ 12 0 (zI σ 14 4)) (zA σ 12 1 (zI σ 14 4)) (zA σ 12 2 (zI σ 14 4)) := h.1.2 _ h.2.2.1.1 (by have := h.2.2.1; omega)
theorem PS.at {σ : ZS} (h : PS σ) : 0 ≤ zI σ 14 4 ∧ zI σ 14 4 < 481 := by
  have h1 := h.2.2.1; have h2 := h.1.1; omega
theorem PS.on {σ : ZS} (h : PS σ) (hn : zA σ 12 0 (zI σ 14 4) ≠ 0) : PS (zsI σ 14 4 (zI σ 14 4 + 1)) := by
  have h1 := h.2.2.1; have h2 := h.2.1
  refine h.mv (ob_i (by decide)) (ob_i (by decide)) (ob_i (by decide)) rfl ?_
  show 0 ≤ zI σ 14 4 + 1 ∧ zI σ 14 4 + 1 ≤ zI σ 12 3 - 1
  have : zI σ 14 4 ≠ zI σ 12 3 - 1 := fun e => hn (by rw [e]; exact h2.2)
  omega
theorem c_type {σ : ZS} {Q : Int → ZS → Prop} (h : PS σ) (hQ : Q (zA σ 12 0 (zI σ 14 4)) σ) : wpX8_type σ Q := ⟨h.at, hQ⟩
theorem c_value {σ : ZS} {Q : Int → ZS → Prop} (h : PS σ) (hQ : Q (zA σ 12 1 (zI σ 14 4)) σ) : wpX8_value σ Q := ⟨h.at, hQ⟩
theorem c_take {σ : ZS} {a : Int} {Q : Int → ZS → Prop} (h : PS σ) (ha : 1 ≤ a ∧ a ≤ 126) (h1 : zA σ 12 0 (zI σ 14 4) = a → PS (zsI σ 14 4 (zI σ 14 4 + 1)) → Q 1 (zsI σ 14 4 (zI σ 14 4 + 1))) (h0 : zA σ 12 0 (zI σ 14 4) ≠ a → Q 0 σ) : wpX8_take a σ Q := by
  have ht := h.tk.1
  unfold wpX8_take
  exact ⟨h.at, by omega, by omega, fun e => h1 e (h.on (by omega)), h0⟩
/-- the draft grows -/
theorem c_add {σ : ZS} {t v n p w : Int} {Q : ZS → Prop} (h : PS σ) (hi : IT (zI σ 11 5) t v n p w) (ho : t = 0 ∨ t = 2 ∨ t = 3 ∨ zI σ 14 5 = 1) (hQ : ∀ τ : ZS, PS τ → kp [13] σ τ → (zI τ 13 7 = 248 ∨ ∃ j : Int, 0 ≤ j ∧ j < zI τ 13 7 ∧ zA τ 13 0 j = t) → Q τ) : wpX0_add t v n p w σ Q := by
  have h' := h
  obtain ⟨h1, h2, h3, h4, ⟨d1, d2, d3⟩, ⟨o1, o2⟩, h7⟩ := h'
  have key : ∀ τ : ZS, zI σ 13 7 < 248 → kp [13] σ τ → zI τ 13 7 = zI σ 13 7 + 1 → zA τ 13 0 = zu (zA σ 13 0) (zI σ 13 7) t → zA τ 13 1 = zu (zA σ 13 1) (zI σ 13 7) v → zA τ 13 2 = zu (zA σ 13 2) (zI σ 13 7) n → zA τ 13 3 = zu (zA σ 13 3) (zI σ 13 7) p → zA τ 13 4 = zu (zA σ 13 4) (zI σ 13 7) w → zA τ 13 6 = zu (zA σ 13 6) (zI σ 13 7) 0 → Q τ := by
    intro τ hlt k ez e0 e1 e2 e3 e4 e6
    have e14 := k.I (g := 14) (by decide)
    have o1' : ∀ i : Int, 0 ≤ i → i < zI σ 13 7 → zu (zA σ 13 0) (zI σ 13 7) t i = zA σ 13 0 i := fun i i0 i1 => pu_ne (by omega)
    refine hQ τ ⟨h1.k (k 11 (by decide)) (k 12 (by decide)), ?_, ?_, ?_, ⟨by omega, fun i i0 i1 => ?_, fun i i0 i1 => ?_⟩, ⟨fun i i0 i1 => ?_, fun q => ?_⟩, by rw [k.I (by decide) 5]; exact h7⟩ k (Or.inr ⟨zI σ 13 7, d1.1, by omega, by rw [e0]; exact pu_eq⟩)
    · rw [k.I (by decide) 3, k.A (by decide) 0]; exact h2
    · rw [e14 4, k.I (by decide) 3]; exact h3
    · rw [e14 5]; exact h4
    · rw [k.I (by decide) 5, e0, e1, e2, e3, e4]
      by_cases e : i = zI σ 13 7
      · rw [e, pu_eq, pu_eq, pu_eq, pu_eq, pu_eq]; exact hi
      · rw [pu_ne e, pu_ne e, pu_ne e, pu_ne e, pu_ne e]; exact d2 i i0 (by omega)
    · rw [e6]
      by_cases e : i = zI σ 13 7
      · rw [e, pu_eq]; decide
      · rw [pu_ne e]; exact d3 i i0 (by omega)
    · rw [e0]
      by_cases e : i = zI σ 13 7
      · rw [e, pu_eq]
        rcases ho with q | q | q | q
        · exact Or.inl q
        · exact Or.inr (Or.inl q)
        · exact Or.inr (Or.inr (Or.inl q))
        · rcases o2 (by omega) with r | ⟨j, j0, j1, j2⟩
          · omega
          · exact Or.inr (Or.inr (Or.inr ⟨j, j0, j1, by rw [o1' j j0 j1]; exact j2⟩))
      · rw [pu_ne e]
        rcases o1 i i0 (by omega) with q | q | q | ⟨j, j0, j1, j2⟩
        · exact Or.inl q
        · exact Or.inr (Or.inl q)
        · exact Or.inr (Or.inr (Or.inl q))
        · exact Or.inr (Or.inr (Or.inr ⟨j, j0, j1, by rw [o1' j j0 (by omega)]; exact j2⟩))
    · rw [e14 5] at q
      rcases o2 q with r | ⟨j, j0, j1, j2⟩
      · omega
      · exact Or.inr ⟨j, j0, by omega, by rw [e0, o1' j j0 j1]; exact j2⟩
  unfold wpX0_add wpX0_add_92
  refine ⟨by omega, fun a => hQ σ h kp.rf (Or.inl (by omega)), fun a => ⟨by omega, key _ (by omega) ((((((((kp.rf.ta (by decide)).ta (by decide)).ta (by decide)).ta (by decide)).ta (by decide)).ta (by decide)).ta (by decide)).ti (by decide)) rfl rfl rfl rfl rfl rfl rfl⟩⟩
theorem c_addByte {σ : ZS} {b : Int} {Q : ZS → Prop} (h : PS σ) (ho : zI σ 14 5 = 1) (hQ : ∀ τ : ZS, PS τ → kp [13] σ τ → Q τ) : wpX0_addByte b σ Q := by
  unfold wpX0_addByte
  have hN := h.2.2.2.2.2.2
  exact c_add h ⟨by decide, by omega, by omega, by decide, by decide, fun q => absurd rfl q, fun q => absurd q (by decide), fun q => absurd q (by decide), fun q => absurd q (by decide), fun q => absurd q (by decide)⟩ (Or.inr (Or.inr (Or.inr ho))) (fun τ a b _ => hQ τ a b)
/-! an operand -/
def OPB (σ : ZS) (g : Int) : Prop := (0 ≤ zI σ g 0 ∧ zI σ g 0 ≤ 16) ∧ (-1 ≤ zI σ g 3 ∧ zI σ g 3 < zI σ 11 5) ∧ (0 ≤ zI σ g 3 → 0 ≤ zI σ g 4) ∧ (-1 ≤ zI σ g 4 ∧ zI σ g 4 ≤ 480) ∧ (0 ≤ zI σ g 5 ∧ zI σ g 5 ≤ 1) ∧ (zI σ g 6 = 0 ∨ zI σ g 6 = 3 ∨ zI σ g 6 = 5) ∧ (zI σ g 7 = 0 ∨ zI σ g 7 = 6 ∨ zI σ g 7 = 7)
def OPI (σ : ZS) (g : Int) : Prop := OPB σ g ∧ (0 ≤ zI σ g 2 ∧ zI σ g 2 ≤ 65536)
theorem OPB.k {σ τ : ZS} {g : Int} (h : OPB σ g) (e : ob τ 11 = ob σ 11) (e' : ob τ g = ob σ g) : OPB τ g := by
  have e1 := ob_I e; have e3 := ob_I e'
  unfold OPB; simp only [e1, e3]; exact h
theorem OPI.k {σ τ : ZS} {g : Int} (h : OPI σ g) (e : ob τ 11 = ob σ 11) (e' : ob τ g = ob σ g) : OPI τ g := ⟨h.1.k e e', by rw [ob_I e' 2]; exact h.2⟩
/-- an operand is read: what may change -/
def OG (g : Int) (σ τ : ZS) : Prop := PS τ ∧ kp [g, 14] σ τ ∧ zI τ 14 5 = zI σ 14 5
theorem OG.rf {g : Int} {σ : ZS} (h : PS σ) : OG g σ σ := ⟨h, kp.rf, rfl⟩
theorem OG.tr {g : Int} {σ τ υ : ZS} (h : OG g σ τ) (k : OG g τ υ) : OG g σ υ := ⟨k.1, h.2.1.tr k.2.1, k.2.2.trans h.2.2⟩
theorem m_g1 {g h : Int} : g ∈ [g, h] := List.mem_cons_self
theorem m_g2 {g h : Int} : h ∈ [g, h] := List.mem_cons_of_mem _ List.mem_cons_self
theorem m_no {g a b : Int} (h1 : a ≠ g) (h2 : a ≠ b) : a ∉ [g, b] := by
  intro q
  rcases List.mem_cons.mp q with e | q
  · exact h1 e
  · exact h2 (List.mem_singleton.mp q)
theorem OG.on {g : Int} {σ τ : ZS} (h : OG g σ τ) (hn : zA τ 12 0 (zI τ 14 4) ≠ 0) : OG g σ (zsI τ 14 4 (zI τ 14 4 + 1)) := ⟨h.1.on hn, h.2.1.ti m_g2, h.2.2⟩
theorem OG.g {g v : Int} {σ τ : ZS} {f : Nat} (h : OG g σ τ) (hg : 5 ≤ g ∧ g ≤ 6) : OG g σ (zsI τ g f v) := ⟨h.1.mv (ob_i (by omega)) (ob_i (by omega)) (ob_i (by omega)) (zI_g (by omega)) (by rw [zI_g (by omega)]; exact h.1.2.2.1), h.2.1.ti m_g1, (zI_g (by omega)).trans h.2.2⟩
theorem c_clear {g k : Int} {σ : ZS} {Q : ZS → Prop} (hg : 5 ≤ g ∧ g ≤ 6) (h : PS σ) (hk : 0 ≤ k ∧ k ≤ 16) (hQ : ∀ τ : ZS, OG g σ τ → OPI τ g → zI τ g 0 = k → zI τ g 3 = -1 → ob τ 14 = ob σ 14 → Q τ) : wpX7_clear g k σ Q := by
  have hN := h.2.2.2.2.2.2
  have key : ∀ τ : ZS, kp [g] σ τ → zI τ g 0 = k → zI τ g 2 = 0 → zI τ g 3 = -1 → zI τ g 4 = -1 → zI τ g 5 = 0 → zI τ g 6 = 0 → zI τ g 7 = 0 → Q τ := by
    intro τ kk e0 e2 e3 e4 e5 e6 e7
    have nn : ∀ a : Int, a ≠ g → a ∉ [g] := fun a q q' => q (List.mem_singleton.mp q')
    have e11 := kk 11 (nn 11 (by omega))
    refine hQ τ ⟨h.k kk (nn 11 (by omega)) (nn 12 (by omega)) (nn 13 (by omega)) (nn 14 (by omega)), kk.up (fun a q => by rw [List.mem_singleton.mp q]; exact m_g1), kk.I (nn 14 (by omega)) 5⟩ ⟨⟨?_, ?_, ?_, ?_, ?_, Or.inl e6, Or.inl e7⟩, by rw [e2]; decide⟩ e0 e3 (kk 14 (nn 14 (by omega)))
    · rw [e0]; exact hk
    · rw [e3, ob_I e11 5]; omega
    · rw [e3]; intro q; exact absurd q (by decide)
    · rw [e4]; decide
    · rw [e5]; decide
  unfold wpX7_clear
  refine ⟨hg, ?_⟩
  obtain rfl | rfl : g = 5 ∨ g = 6 := by omega
  · exact key _ ((((((((kp.rf.ti (by decide)).ti (by decide)).ti (by decide)).ti (by decide)).ti (by decide)).ti (by decide)).ti (by decide)).ti (by decide)) rfl rfl rfl rfl rfl rfl rfl
  · exact key _ ((((((((kp.rf.ti (by decide)).ti (by decide)).ti (by decide)).ti (by decide)).ti (by decide)).ti (by decide)).ti (by decide)).ti (by decide)) rfl rfl rfl rfl rfl rfl rfl
theorem c_coded {g k : Int} {σ : ZS} {Q : Int → ZS → Prop} (hg : 5 ≤ g ∧ g ≤ 6) (h : PS σ) (hk : 0 ≤ k ∧ k ≤ 16) (hn : zA σ 12 0 (zI σ 14 4) ≠ 0) (hQ : ∀ τ : ZS, OG g σ τ → OPI τ g → Q 1 τ) : wpX8_coded g k σ Q := by
  unfold wpX8_coded
  refine ⟨hg, c_clear hg h hk (fun τ og oi _ _ e14 => c_value og.1 ?_)⟩
  have og2 := og.g (f := 1) (v := zA τ 12 1 (zI τ 14 4)) hg
  have hn2 : zA (zsI τ g 1 (zA τ 12 1 (zI τ 14 4))) 12 0 (zI (zsI τ g 1 (zA τ 12 1 (zI τ 14 4))) 14 4) ≠ 0 := by
    rw [zI_g (by omega)]
    show zA τ 12 0 (zI τ 14 4) ≠ 0
    rw [og.2.1.A (m_no (by omega) (by decide)) 0, ob_I e14 4]; exact hn
  have r := og2.on hn2
  rw [zI_g (show (14 : Int) ≠ g by omega)] at r
  refine hQ _ r ⟨?_, ?_⟩
  · obtain ⟨⟨a1, a2, a3, a4, a5, a6, a7⟩, b⟩ := oi
    unfold OPB
    simp only [zI_g (show (11 : Int) ≠ 14 by decide), zI_g (show g ≠ 14 by omega), zI_g (show (11 : Int) ≠ g by omega), zI_f (show (0 : Nat) ≠ 1 by decide), zI_f (show (3 : Nat) ≠ 1 by decide), zI_f (show (4 : Nat) ≠ 1 by decide), zI_f (show (5 : Nat) ≠ 1 by decide), zI_f (show (6 : Nat) ≠ 1 by decide), zI_f (show (7 : Nat) ≠ 1 by decide)]
    exact ⟨a1, a2, a3, a4, a5, a6, a7⟩
  · rw [zI_g (by omega), zI_f (by decide)]; exact oi.2
theorem c_part {g : Int} {σ : ZS} {Q : Int → ZS → Prop} (hg : 5 ≤ g ∧ g ≤ 6) (h : PS σ) (ho : OPB σ g) (h1 : ∀ τ : ZS, OG g σ τ → OPB τ g → Q 1 τ) (h0 : Q 0 σ) : wpX8_part g σ Q := by
  obtain ⟨a1, a2, a3, a4, a5, a6, a7⟩ := ho
  have ht := h.tk
  have hN := h.2.2.2.2.2.2
  obtain ⟨t1, t2, t3, t4⟩ := ht
  have f141 : ∀ τ : ZS, zA σ 12 0 (zI σ 14 4) ≠ 0 → OG g σ τ → ob τ 14 = ob σ 14 → OPB τ g → wpX8_part_141 τ Q := by
    intro τ hn og e14 oo
    unfold wpX8_part_141
    refine h1 _ (og.on ?_) (oo.k (ob_i (by decide)) (ob_i (by omega)))
    rw [og.2.1.A (m_no (by omega) (by decide)) 0, ob_I e14 4]; exact hn
  have f124 : ∀ v : Int, v = 6 ∨ v = 7 → zA σ 12 0 (zI σ 14 4) ≠ 0 → wpX8_part_124 g v σ Q := by
    intro v hv hn
    unfold wpX8_part_124 wpX8_part_139
    refine ⟨hg, by omega, fun _ => h0, fun _ => f141 _ hn ((OG.rf h).g hg) (ob_i (by omega)) ?_⟩
    unfold OPB
    simp only [zI_g (show (11 : Int) ≠ g by omega), zI_s, zI_f (show (0 : Nat) ≠ 7 by decide), zI_f (show (3 : Nat) ≠ 7 by decide), zI_f (show (4 : Nat) ≠ 7 by decide), zI_f (show (5 : Nat) ≠ 7 by decide), zI_f (show (6 : Nat) ≠ 7 by decide)]
    exact ⟨a1, a2, a3, a4, a5, a6, Or.inr hv⟩
  have f112 : ∀ v : Int, (-2147483648 ≤ v ∧ v ≤ 2147483647) → zA σ 12 0 (zI σ 14 4) ≠ 0 → wpX8_part_112 g v σ Q := by
    intro v hv hn
    unfold wpX8_part_112 wpX8_part_139
    exact ⟨hv, fun e => f124 v (Or.inl e) hn, fun _ => ⟨fun _ => h0, fun e => f124 v (Or.inr e) hn⟩⟩
  have f97 : ∀ v : Int, v = 3 ∨ v = 5 → zA σ 12 0 (zI σ 14 4) ≠ 0 → wpX8_part_97 g v σ Q := by
    intro v hv hn
    unfold wpX8_part_97
    refine ⟨hg, by omega, fun _ => f112 v (by omega) hn, fun _ => f141 _ hn ((OG.rf h).g hg) (ob_i (by omega)) ?_⟩
    unfold OPB
    simp only [zI_g (show (11 : Int) ≠ g by omega), zI_s, zI_f (show (0 : Nat) ≠ 6 by decide), zI_f (show (3 : Nat) ≠ 6 by decide), zI_f (show (4 : Nat) ≠ 6 by decide), zI_f (show (5 : Nat) ≠ 6 by decide), zI_f (show (7 : Nat) ≠ 6 by decide)]
    exact ⟨a1, a2, a3, a4, a5, Or.inr hv, a7⟩
  have f80 : wpX8_part_80 g (zA σ 12 0 (zI σ 14 4)) (zA σ 12 1 (zI σ 14 4)) σ Q := by
    unfold wpX8_part_80
    exact ⟨by omega, fun e => ⟨by omega, fun e' => f97 _ (Or.inl e') (by omega), fun _ => ⟨fun _ => f112 _ (by omega) (by omega), fun e' => f97 _ (Or.inr e') (by omega)⟩⟩, fun _ => h0⟩
  unfold wpX8_part
  refine ⟨h.at, by omega, fun _ => ⟨fun _ => f80, fun e3 => ⟨hg, by omega, fun _ => f80, fun _ => f141 _ (by omega) (((OG.rf h).g hg).g hg) ((ob_i (by omega)).trans (ob_i (by omega))) ?_⟩⟩, fun e2 => ⟨hg, f141 _ (by omega) ((OG.rf h).g hg) (ob_i (by omega)) ?_⟩⟩
  · have := t4 e3
    unfold OPB
    simp only [zI_g (show (11 : Int) ≠ g by omega), zI_s, zI_f (show (0 : Nat) ≠ 4 by decide), zI_f (show (0 : Nat) ≠ 3 by decide), zI_f (show (3 : Nat) ≠ 4 by decide), zI_f (show (5 : Nat) ≠ 3 by decide), zI_f (show (5 : Nat) ≠ 4 by decide), zI_f (show (6 : Nat) ≠ 3 by decide), zI_f (show (6 : Nat) ≠ 4 by decide), zI_f (show (7 : Nat) ≠ 3 by decide), zI_f (show (7 : Nat) ≠ 4 by decide)]
    exact ⟨a1, by omega, fun _ => t3.1, by omega, a5, a6, a7⟩
  · unfold OPB
    simp only [zI_g (show (11 : Int) ≠ g by omega), zI_f (show (0 : Nat) ≠ 2 by decide), zI_f (show (3 : Nat) ≠ 2 by decide), zI_f (show (4 : Nat) ≠ 2 by decide), zI_f (show (5 : Nat) ≠ 2 by decide), zI_f (show (6 : Nat) ≠ 2 by decide), zI_f (show (7 : Nat) ≠ 2 by decide)]
    exact ⟨a1, a2, a3, a4, a5, a6, a7⟩
theorem OPB.n2 {g v : Int} {τ : ZS} (h : OPB τ g) (hg : 5 ≤ g ∧ g ≤ 6) : OPB (zsI τ g 2 v) g := by
  unfold OPB
  simp only [zI_g (show (11 : Int) ≠ g by omega), zI_f (show (0 : Nat) ≠ 2 by decide), zI_f (show (3 : Nat) ≠ 2 by decide), zI_f (show (4 : Nat) ≠ 2 by decide), zI_f (show (5 : Nat) ≠ 2 by decide), zI_f (show (6 : Nat) ≠ 2 by decide), zI_f (show (7 : Nat) ≠ 2 by decide)]
  exact h
theorem c_brackets {g : Int} {σ : ZS} {Q : Int → ZS → Prop} (hg : 5 ≤ g ∧ g ≤ 6) (h : PS σ) (hn : zA σ 12 0 (zI σ 14 4) ≠ 0) (h1 : ∀ τ : ZS, OG g σ τ → OPI τ g → Q 1 τ) (h0 : ∀ τ : ZS, OG g σ τ → Q 0 τ) : wpX8_brackets g σ Q := by
  unfold wpX8_brackets
  refine ⟨hg, c_clear hg h (by decide) (fun τ0 og0 oi0 _ _ e14 => ?_)⟩
  have hn0 : zA τ0 12 0 (zI τ0 14 4) ≠ 0 := by
    rw [og0.2.1.A (m_no (by omega) (by decide)) 0, ob_I e14 4]; exact hn
  have og1 := og0.on hn0
  refine c_part hg og1.1 (oi0.1.k (ob_i (by decide)) (ob_i (by omega))) (fun τ2 og2 ob2 => ⟨by decide, fun _ => ?_, fun q => absurd q (by decide)⟩) ⟨by decide, fun q => absurd rfl q, fun _ => h0 _ og1⟩
  have f117 : ∀ τ : ZS, OG g σ τ → OPB τ g → wpX8_brackets_117 g τ Q := by
    intro τ og oo
    unfold wpX8_brackets_117
    have og' := og.g (f := 2) (v := zI τ g 2 % 65536) hg
    have oi' : OPI (zsI τ g 2 (zI τ g 2 % 65536)) g := ⟨oo.n2 hg, by rw [zI_s]; omega⟩
    exact ⟨hg, c_take og'.1 (by decide) (fun e p => ⟨by decide, h1 _ (og'.on (by omega)) (oi'.k (ob_i (by decide)) (ob_i (by omega)))⟩) (fun _ => ⟨by decide, h0 _ og'⟩)⟩
  unfold wpX8_brackets_27
  refine lfp1_ind (fun v _ => (481 - v).toNat) (fun v τ => OG g σ τ ∧ OPB τ g ∧ (0 ≤ v ∧ v ≤ 481)) (fun K v τ hI ih => ?_) ⟨og1.tr og2, ob2, by decide⟩
  obtain ⟨og, oo, v0⟩ := hI
  have hz := og.1.1.1
  have ht := og.1.tk.1
  unfold wpbX8_brackets_27 wpX8_brackets_109 wpX8_brackets_111
  refine ⟨by omega, by omega, fun _ => f117 τ og oo, fun a => c_type og.1 ⟨by omega, fun _ => f117 τ og oo, fun _ => c_take og.1 (by decide) (fun e45 p => ⟨by decide, fun q => absurd q (by decide), fun _ => ?_⟩) (fun n45 => ⟨by decide, fun _ => c_take og.1 (by decide) (fun e43 p => ⟨by decide, fun q => absurd q (by decide), fun _ => ?_⟩) (fun _ => ⟨by decide, fun _ => h0 _ og, fun q => absurd rfl q⟩), fun q => absurd rfl q⟩)⟩⟩
  · have og' := og.on (show zA τ 12 0 (zI τ 14 4) ≠ 0 by omega)
    have oo' : OPB (zsI τ 14 4 (zI τ 14 4 + 1)) g := oo.k (ob_i (by decide)) (ob_i (by omega))
    have ht' := og'.1.tk.1
    refine c_type og'.1 ⟨by omega, fun e2 => ⟨hg, c_value og'.1 ?_⟩, fun _ => h0 _ og'⟩
    have r := (og'.g (f := 2) (v := zI (zsI τ 14 4 (zI τ 14 4 + 1)) g 2 - zA (zsI τ 14 4 (zI τ 14 4 + 1)) 12 1 (zI (zsI τ 14 4 (zI τ 14 4 + 1)) 14 4)) hg).on (by
      rw [zI_g (show (14 : Int) ≠ g by omega)]
      show zA (zsI τ 14 4 (zI τ 14 4 + 1)) 12 0 (zI (zsI τ 14 4 (zI τ 14 4 + 1)) 14 4) ≠ 0
      omega)
    rw [zI_g (show (14 : Int) ≠ g by omega)] at r
    exact ih _ _ ⟨r, (oo'.n2 hg).k (ob_i (by decide)) (ob_i (by omega)), by omega⟩ (by omega)
  · have og' := og.on (show zA τ 12 0 (zI τ 14 4) ≠ 0 by omega)
    have oo' : OPB (zsI τ 14 4 (zI τ 14 4 + 1)) g := oo.k (ob_i (by decide)) (ob_i (by omega))
    exact c_part hg og'.1 oo' (fun υ ug uo => ⟨by decide, fun _ => ih _ _ ⟨og'.tr ug, uo, by omega⟩ (by omega), fun q => absurd q (by decide)⟩) ⟨by decide, fun q => absurd rfl q, fun _ => h0 _ og'⟩
theorem c_plainValue {g : Int} {σ : ZS} {Q : Int → ZS → Prop} (hg : 5 ≤ g ∧ g ≤ 6) (h : PS σ) (h1 : ∀ τ : ZS, OG g σ τ → OPI τ g → Q 1 τ) (h0 : ∀ τ : ZS, OG g σ τ → Q 0 τ) : wpX8_plainValue g σ Q := by
  unfold wpX8_plainValue
  refine ⟨hg, c_clear hg h (by decide) (fun τ og oi e0 e3 e14 => c_type og.1 ?_)⟩
  have ht := og.1.tk
  have hN := og.1.2.2.2.2.2.2
  refine ⟨by have := ht.1; omega, fun n2 => ?_, fun e2 => c_value og.1 ?_⟩
  · have fin : ∀ (x : Int) (υ : ZS), (0 ≤ x ∧ x ≤ 1) → OG g τ υ → OPI υ g → ((0 ≤ x ∧ x ≤ 1) ∧ wpX8_value (zsI υ g 5 x) (fun (x11 : Int) (σ12 : ZS) => (0 ≤ (zI σ12 14 4) ∧ (zI σ12 14 4) < 481) ∧ wpX8_take 3 (zsI (zsI σ12 g 3 x11) g 4 (zA σ12 12 2 (zI σ12 14 4))) (fun (x14 : Int) (σ15 : ZS) => (0 ≤ x14 ∧ x14 ≤ 1) ∧ Q x14 σ15))) := by
      intro x υ hx ug uo
      have ug5 := ug.g (f := 5) (v := x) hg
      refine ⟨hx, c_value ug5.1 ⟨ug5.1.at, ?_⟩⟩
      have ug4 := (ug5.g (f := 3) (v := zA (zsI υ g 5 x) 12 1 (zI (zsI υ g 5 x) 14 4)) hg).g (f := 4) (v := zA (zsI υ g 5 x) 12 2 (zI (zsI υ g 5 x) 14 4)) hg
      refine c_take ug4.1 (by decide) (fun e p => ⟨by decide, h1 _ (og.tr (ug4.on (by omega))) ?_⟩) (fun _ => ⟨by decide, h0 _ (og.tr ug4)⟩)
      have tk5 := ug5.1.tk
      simp only [zI_g (show (14 : Int) ≠ g by omega)] at e
      have e' : zA (zsI υ g 5 x) 12 0 (zI (zsI υ g 5 x) 14 4) = 3 := by
        rw [zI_g (show (14 : Int) ≠ g by omega)]
        exact e
      obtain ⟨t1, t2, t3, t4⟩ := tk5
      have t4' := t4 e'
      have e11 : zI (zsI υ g 5 x) 11 5 = zI υ 11 5 := zI_g (by omega)
      rw [e11] at t4'
      obtain ⟨⟨a1, a2, a3, a4, a5, a6, a7⟩, b⟩ := uo
      unfold OPI OPB
      simp only [zI_g (show (11 : Int) ≠ 14 by decide), zI_g (show g ≠ 14 by omega), zI_g (show (11 : Int) ≠ g by omega), zI_s, zI_f (show (0 : Nat) ≠ 4 by decide), zI_f (show (0 : Nat) ≠ 3 by decide), zI_f (show (0 : Nat) ≠ 5 by decide), zI_f (show (2 : Nat) ≠ 3 by decide), zI_f (show (2 : Nat) ≠ 4 by decide), zI_f (show (2 : Nat) ≠ 5 by decide), zI_f (show (3 : Nat) ≠ 4 by decide), zI_f (show (5 : Nat) ≠ 3 by decide), zI_f (show (5 : Nat) ≠ 4 by decide), zI_f (show (6 : Nat) ≠ 3 by decide), zI_f (show (6 : Nat) ≠ 4 by decide), zI_f (show (6 : Nat) ≠ 5 by decide), zI_f (show (7 : Nat) ≠ 3 by decide), zI_f (show (7 : Nat) ≠ 4 by decide), zI_f (show (7 : Nat) ≠ 5 by decide)]
      exact ⟨⟨a1, ⟨by omega, t4'⟩, fun _ => t3.1, by omega, hx, a6, a7⟩, b⟩
    exact c_take og.1 (by decide) (fun e p => fin 1 _ (by decide) ((OG.rf og.1).on (by omega)) (oi.k (ob_i (by decide)) (ob_i (by omega)))) (fun _ => fin 0 τ (by decide) (OG.rf og.1) oi)
  · have r := (og.g (f := 2) (v := zA τ 12 1 (zI τ 14 4)) hg).on (by
      rw [zI_g (show (14 : Int) ≠ g by omega)]
      show zA τ 12 0 (zI τ 14 4) ≠ 0
      omega)
    rw [zI_g (show (14 : Int) ≠ g by omega)] at r
    refine h1 _ r ⟨(oi.1.n2 hg).k (ob_i (by decide)) (ob_i (by omega)), ?_⟩
    rw [zI_g (by omega), zI_s]
    exact ht.2.1
theorem c_operand {g a : Int} {σ : ZS} {Q : Int → ZS → Prop} (hg : 5 ≤ g ∧ g ≤ 6) (h : PS σ) (h1 : ∀ τ : ZS, OG g σ τ → OPI τ g → Q 1 τ) (h0 : ∀ τ : ZS, OG g σ τ → Q 0 τ) : wpX8_operand g a σ Q := by
  have ht := h.tk
  have r0 := OG.rf (g := g) h
  have f143 : wpX8_operand_143 g a σ Q := by
    unfold wpX8_operand_143 wpX8_operand_161 wpX8_operand_162
    exact ⟨zand_bd _ _, fun _ => ⟨by decide, h0 _ r0⟩, fun _ => c_plainValue hg h (fun τ og oi => ⟨by decide, fun q => absurd q (by decide), fun _ => ⟨by decide, h1 τ og oi⟩⟩) (fun τ og => ⟨by decide, fun _ => ⟨by decide, h0 τ og⟩, fun q => absurd rfl q⟩)⟩
  have f100 : ∀ s : Int, zA σ 12 0 (zI σ 14 4) ≠ 0 → wpX8_operand_100 g a s σ Q := by
    intro s hn
    unfold wpX8_operand_100 wpX8_operand_121 wpX8_operand_122
    exact ⟨zand_bd _ _, fun _ => ⟨by decide, h0 _ r0⟩, fun _ => c_coded hg h (by decide) hn (fun τ og oi => ⟨by decide, fun q => absurd q (by decide), fun _ => ⟨by decide, h1 τ og oi⟩⟩)⟩
  unfold wpX8_operand wpX8_operand_83 wpX8_operand_84 wpX8_operand_141 wpX8_operand_142
  refine c_type h ⟨by have := ht.1; omega, fun _ => f143, fun _ => ⟨fun _ => f143, fun _ => ⟨fun e4 => ⟨fun _ => ⟨by decide, h0 _ r0⟩, fun _ => c_coded hg h (by decide) (by omega) (fun τ og oi => ⟨by decide, fun q => absurd q (by decide), fun _ => ⟨by decide, h1 τ og oi⟩⟩)⟩, fun _ => ⟨fun e5 => c_value h ⟨by have := ht.2.1; omega, fun _ => f100 8 (by omega), fun _ => f100 16 (by omega)⟩, fun _ => ⟨fun _ => f143, fun _ => ⟨fun e91 => ⟨zand_bd _ _, fun _ => ⟨by decide, h0 _ r0⟩, fun _ => c_brackets hg h (by omega) (fun τ og oi => ⟨by decide, fun q => absurd q (by decide), fun _ => ⟨by decide, h1 τ og oi⟩⟩) (fun τ og => ⟨by decide, fun _ => ⟨by decide, h0 τ og⟩, fun q => absurd rfl q⟩)⟩, fun _ => h0 _ r0⟩⟩⟩⟩⟩⟩
/-! C: statements -/
def PG (σ τ : ZS) : Prop := PS τ ∧ kp [5, 6, 13, 14] σ τ ∧ zI τ 14 5 = zI σ 14 5
theorem PG.rf {σ : ZS} (h : PS σ) : PG σ σ := ⟨h, kp.rf, rfl⟩
theorem PG.tr {σ τ υ : ZS} (h : PG σ τ) (k : PG τ υ) : PG σ υ := ⟨k.1, h.2.1.tr k.2.1, k.2.2.trans h.2.2⟩
theorem PG.on {σ τ : ZS} (h : PG σ τ) (hn : zA τ 12 0 (zI τ 14 4) ≠ 0) : PG σ (zsI τ 14 4 (zI τ 14 4 + 1)) := ⟨h.1.on hn, h.2.1.ti (by decide), h.2.2⟩
theorem PG.o5 {σ τ υ : ZS} (h : PG σ τ) (k : OG 5 τ υ) : PG σ υ := ⟨k.1, h.2.1.tr (k.2.1.up (by decide)), k.2.2.trans h.2.2⟩
theorem PG.o6 {σ τ υ : ZS} (h : PG σ τ) (k : OG 6 τ υ) : PG σ υ := ⟨k.1, h.2.1.tr (k.2.1.up (by decide)), k.2.2.trans h.2.2⟩
theorem PG.ad {σ τ υ : ZS} (h : PG σ τ) (hp : PS υ) (k : kp [13] τ υ) : PG σ υ := ⟨hp, h.2.1.tr (k.up (by decide)), (k.I (by decide) 5).trans h.2.2⟩
theorem c_addValue {g : Int} {σ : ZS} {Q : ZS → Prop} (hg : 5 ≤ g ∧ g ≤ 6) (h : PS σ) (ho : zI σ 14 5 = 1) (hi : OPI σ g) (hQ : ∀ τ : ZS, PS τ → kp [13] σ τ → Q τ) : wpX0_addValue g σ Q := by
  obtain ⟨⟨a1, a2, a3, a4, a5, a6, a7⟩, b⟩ := hi
  have f38 : ∀ s : Int, s = 7 ∨ s = 8 → 0 ≤ zI σ g 3 → wpX0_addValue_38 g s σ Q := by
    intro s hs hn
    unfold wpX0_addValue_38 wpX0_addValue_54
    exact ⟨hg, c_add h ⟨by omega, b, a2, a4, by decide, fun _ _ _ => hn, a3, fun q => absurd q (by omega), fun q => absurd q (by omega), fun q => absurd q (by omega)⟩ (Or.inr (Or.inr (Or.inr ho))) (fun τ p k _ => hQ τ p k)⟩
  unfold wpX0_addValue wpX0_addValue_54
  exact ⟨hg, by have := h.2.2.2.2.2.2; omega, fun n0 => ⟨by omega, fun _ => f38 7 (Or.inl rfl) n0, fun _ => f38 8 (Or.inr rfl) n0⟩, fun _ => c_add h ⟨by decide, b, by have := h.2.2.2.2.2.2; omega, by decide, by decide, fun _ _ q => absurd rfl q, fun q => absurd q (by decide), fun q => absurd q (by decide), fun q => absurd q (by decide), fun q => absurd q (by decide)⟩ (Or.inr (Or.inr (Or.inr ho))) (fun τ p k _ => hQ τ p k)⟩
theorem c_isBare {g : Int} {σ : ZS} {Q : Int → ZS → Prop} (hg : 5 ≤ g ∧ g ≤ 6) (hi : OPB σ g) (hQ : ∀ x : Int, (0 ≤ x ∧ x ≤ 1) → Q x σ) : wpX7_isBare g σ Q := by
  obtain ⟨a1, a2, a3, a4, a5, a6, a7⟩ := hi
  unfold wpX7_isBare wpX7_isBare_18 wpX7_isBare_19
  exact ⟨hg, by omega, fun _ => ⟨by decide, hQ _ (by decide)⟩, fun _ => ⟨by omega, fun _ => ⟨by decide, hQ _ (by decide)⟩, fun _ => ⟨by decide, hQ _ (by decide)⟩⟩⟩
theorem c_mode {g : Int} {σ : ZS} {Q : Int → ZS → Prop} (hg : 5 ≤ g ∧ g ≤ 6) (hi : OPB σ g) (hQ : ∀ x : Int, (0 ≤ x ∧ x ≤ 7) → Q x σ) : wpX7_mode g σ Q := by
  obtain ⟨a1, a2, a3, a4, a5, a6, a7⟩ := hi
  unfold wpX7_mode wpX7_mode_62 wpX7_mode_48 wpX7_mode_25
  exact ⟨hg, by omega, fun _ => ⟨by omega, fun _ => ⟨fun _ => ⟨hg, hQ _ (by omega)⟩, fun _ => ⟨hg, hQ _ (by omega)⟩⟩, fun _ => ⟨fun _ => hQ _ (by decide), fun _ => hQ _ (by decide)⟩⟩, fun _ => ⟨by omega, fun _ => hQ _ (by omega), fun _ => hQ _ (by decide)⟩⟩
theorem c_isShort {a : Int} {σ : ZS} {Q : Int → ZS → Prop} (ha : -2147483648 ≤ a ∧ a ≤ 2147483647) (h1 : -128 ≤ a → a ≤ 127 → Q 1 σ) (h0 : ¬ (-128 ≤ a ∧ a ≤ 127) → Q 0 σ) : wpX2_isShort a σ Q := by
  unfold wpX2_isShort wpX2_isShort_16 wpX2_isShort_17
  exact ⟨ha, fun _ => ⟨by decide, h0 (by omega)⟩, fun _ => ⟨fun _ => ⟨by decide, h0 (by omega)⟩, fun _ => ⟨by decide, h1 (by omega) (by omega)⟩⟩⟩
theorem c_displacementSize {g : Int} {σ : ZS} {Q : Int → ZS → Prop} (hg : 5 ≤ g ∧ g ≤ 6) (hN : zI σ 11 5 ≤ 240) (hi : OPB σ g) (hQ : ∀ x : Int, (0 ≤ x ∧ x ≤ 2) → Q x σ) : wpX7_displacementSize g σ Q := by
  have f36 : ∀ v : Int, (-32768 ≤ v ∧ v ≤ 32767) → wpX7_displacementSize_36 v σ Q := by
    intro v hv
    unfold wpX7_displacementSize_36 wpX7_displacementSize_48
    exact c_isShort (by omega) (fun _ _ => ⟨by decide, fun _ => hQ _ (by decide), fun _ => hQ _ (by decide)⟩) (fun _ => ⟨by decide, fun _ => hQ _ (by decide), fun _ => hQ _ (by decide)⟩)
  have hi' := hi
  obtain ⟨a1, a2, a3, a4, a5, a6, a7⟩ := hi'
  unfold wpX7_displacementSize wpX7_displacementSize_14 wpX7_signedNumber
  exact ⟨hg, c_isBare hg hi (fun x hx => ⟨by omega, fun _ => hQ _ (by decide), fun _ => ⟨by omega, fun _ => ⟨hg, by omega, fun _ => f36 _ (by omega), fun _ => c_mode hg hi (fun y hy => ⟨by omega, fun _ => f36 _ (by omega), fun _ => hQ _ (by decide)⟩)⟩, fun _ => hQ _ (by decide)⟩⟩)⟩
theorem c_addWithM {g a k : Int} {σ : ZS} {Q : ZS → Prop} (hg : 5 ≤ g ∧ g ≤ 6) (h : PS σ) (ho : zI σ 14 5 = 1) (hi : OPI σ g) (hQ : ∀ τ : ZS, PS τ → kp [13] σ τ → Q τ) : wpX0_addWithM a g k σ Q := by
  have n13 : g ∉ [(13 : Int)] := fun q => by have := List.mem_singleton.mp q; omega
  have n11 : (11 : Int) ∉ [(13 : Int)] := by decide
  have n14 : (14 : Int) ∉ [(13 : Int)] := by decide
  unfold wpX0_addWithM
  refine c_addByte h ho (fun τ tp tk => ?_)
  have ti : OPI τ g := hi.k (tk 11 n11) (tk g n13)
  have to_ : zI τ 14 5 = 1 := (tk.I n14 5).trans ho
  have f53 : ∀ v s : Int, (0 ≤ v ∧ v ≤ 2) → wpX0_addWithM_53 g k v s 64 τ Q := by
    intro v s hv
    unfold wpX0_addWithM_53 wpX0_addWithM_95
    refine ⟨hg, c_mode hg ti.1 (fun x hx => c_addByte tp to_ (fun υ up uk => ?_))⟩
    have ui : OPI υ g := ti.k (uk 11 n11) (uk g n13)
    have uo : zI υ 14 5 = 1 := (uk.I n14 5).trans to_
    exact ⟨by omega, fun _ => ⟨fun _ => hQ _ up (tk.tr uk), fun _ => c_addValue hg up uo ui (fun ω wp wk => hQ _ wp ((tk.tr uk).tr wk))⟩, fun _ => c_addByte up uo (fun ω wp wk => hQ _ wp ((tk.tr uk).tr wk))⟩
  refine ⟨hg, by have := ti.1.1; omega, fun _ => ?_, fun _ => c_addByte tp to_ (fun υ up uk => hQ _ up (tk.tr uk))⟩
  exact c_displacementSize hg tp.2.2.2.2.2.2.2 ti.1 (fun x hx => c_isBare hg ti.1 (fun y hy => ⟨by omega, fun _ => f53 _ _ hx, fun _ => f53 _ _ hx⟩))
theorem n_13 {g : Int} (hg : 5 ≤ g ∧ g ≤ 6) : g ∉ [(13 : Int)] := fun q => by have := List.mem_singleton.mp q; omega
theorem c_mov {σ : ZS} {Q : Int → ZS → Prop} (h : PS σ) (ho : zI σ 14 5 = 1) (hQ : ∀ (x : Int) (τ : ZS), (0 ≤ x ∧ x ≤ 1) → PG σ τ → Q x τ) : wpX8_mov σ Q := by
  have f59 : ∀ (v : Int) (τ : ZS), PG σ τ → OPI τ 5 → wpX8_mov_59 v τ Q := by
    intro v τ tg t5
    unfold wpX8_mov_59 wpX8_mov_273 wpX8_mov_203
    refine c_operand (by decide) tg.1 (fun υ ug u6 => ⟨by decide, fun _ => ?_, fun q => absurd q (by decide)⟩) (fun υ ug => ⟨by decide, fun q => absurd rfl q, fun _ => hQ 0 υ (by decide) (tg.o6 ug)⟩)
    have u5 : OPI υ 5 := t5.k (ug.2.1 11 (by decide)) (ug.2.1 5 (by decide))
    have up := tg.o6 ug
    have uo : zI υ 14 5 = 1 := up.2.2.trans ho
    have e1 : ∀ ω : ZS, PS ω → kp [13] υ ω → Q 1 ω := fun ω wp wk => hQ 1 ω (by decide) (up.ad wp wk)
    have e2 : ∀ ω : ZS, PS ω → kp [13] υ ω → wpX0_addValue 6 ω (fun (σ2 : ZS) => Q 1 σ2) := fun ω wp wk => c_addValue (by decide) wp ((wk.I (by decide) 5).trans uo) (u6.k (wk 11 (by decide)) (wk 6 (by decide))) (fun ψ pp pk => hQ 1 ψ (by decide) ((up.ad wp wk).ad pp pk))
    have r5 := u5.1.1
    have r6 := u6.1.1
    exact ⟨by omega, fun _ => ⟨by omega, fun _ => ⟨fun _ => ⟨fun _ => c_addWithM (by decide) ug.1 uo u5 e1, fun _ => c_addWithM (by decide) ug.1 uo u6 e1⟩, fun _ => ⟨fun _ => c_addWithM (by decide) ug.1 uo u5 e2, fun _ => c_addByte ug.1 uo e2⟩⟩, fun _ => c_addWithM (by decide) ug.1 uo u5 e1⟩, fun _ => c_addWithM (by decide) ug.1 uo u6 e1⟩
  unfold wpX8_mov wpX8_mov_22
  refine c_operand (by decide) h (fun τ tg t5 => ⟨by decide, fun q => absurd q (by decide), fun _ => ?_⟩) (fun τ tg => ⟨by decide, fun _ => hQ 0 τ (by decide) ((PG.rf h).o5 tg), fun q => absurd rfl q⟩)
  have tp := (PG.rf h).o5 tg
  refine c_take tg.1 (by decide) (fun e p => ⟨by decide, fun _ => ?_, fun q => absurd q (by decide)⟩) (fun _ => ⟨by decide, fun q => absurd rfl q, fun _ => hQ 0 τ (by decide) tp⟩)
  have up := tp.on (by omega)
  have u5 : OPI (zsI τ 14 4 (zI τ 14 4 + 1)) 5 := t5.k (ob_i (by decide)) (ob_i (by decide))
  have r5 := u5.1.1
  exact ⟨by omega, fun _ => ⟨fun _ => f59 _ _ up u5, fun _ => f59 _ _ up u5⟩, fun _ => f59 _ _ up u5⟩
theorem c_arithmetic {n : Int} {σ : ZS} {Q : Int → ZS → Prop} (h : PS σ) (ho : zI σ 14 5 = 1) (hQ : ∀ (x : Int) (τ : ZS), (0 ≤ x ∧ x ≤ 1) → PG σ τ → Q x τ) : wpX8_arithmetic n σ Q := by
  have f40 : ∀ (v : Int) (τ : ZS), PG σ τ → OPI τ 5 → wpX8_arithmetic_40 n v τ Q := by
    intro v τ tg t5
    unfold wpX8_arithmetic_40 wpX8_arithmetic_156
    refine c_operand (by decide) tg.1 (fun υ ug u6 => ⟨by decide, fun _ => ?_, fun q => absurd q (by decide)⟩) (fun υ ug => ⟨by decide, fun q => absurd rfl q, fun _ => hQ 0 υ (by decide) (tg.o6 ug)⟩)
    have u5 : OPI υ 5 := t5.k (ug.2.1 11 (by decide)) (ug.2.1 5 (by decide))
    have up := tg.o6 ug
    have uo : zI υ 14 5 = 1 := up.2.2.trans ho
    have e1 : ∀ ω : ZS, PS ω → kp [13] υ ω → Q 1 ω := fun ω wp wk => hQ 1 ω (by decide) (up.ad wp wk)
    have e2 : ∀ ω : ZS, PS ω → kp [13] υ ω → wpX0_addValue 6 ω (fun (σ2 : ZS) => Q 1 σ2) := fun ω wp wk => c_addValue (by decide) wp ((wk.I (by decide) 5).trans uo) (u6.k (wk 11 (by decide)) (wk 6 (by decide))) (fun ψ pp pk => hQ 1 ψ (by decide) ((up.ad wp wk).ad pp pk))
    have r5 := u5.1.1
    have r6 := u6.1.1
    exact ⟨by omega, fun _ => ⟨by omega, fun _ => c_addWithM (by decide) ug.1 uo u5 e1, fun _ => c_addWithM (by decide) ug.1 uo u6 e1⟩, fun _ => c_addWithM (by decide) ug.1 uo u5 e2⟩
  unfold wpX8_arithmetic wpX8_arithmetic_21
  refine c_operand (by decide) h (fun τ tg t5 => ⟨by decide, fun q => absurd q (by decide), fun _ => ?_⟩) (fun τ tg => ⟨by decide, fun _ => hQ 0 τ (by decide) ((PG.rf h).o5 tg), fun q => absurd rfl q⟩)
  have tp := (PG.rf h).o5 tg
  refine c_take tg.1 (by decide) (fun e p => ⟨by decide, fun _ => ?_, fun q => absurd q (by decide)⟩) (fun _ => ⟨by decide, fun q => absurd rfl q, fun _ => hQ 0 τ (by decide) tp⟩)
  have up := tp.on (by omega)
  have u5 : OPI (zsI τ 14 4 (zI τ 14 4 + 1)) 5 := t5.k (ob_i (by decide)) (ob_i (by decide))
  have r5 := u5.1.1
  exact ⟨by omega, fun _ => f40 _ _ up u5, fun _ => f40 _ _ up u5⟩
theorem c_onRegister {a b c : Int} {σ : ZS} {Q : Int → ZS → Prop} (h : PS σ) (ho : zI σ 14 5 = 1) (hQ : ∀ (x : Int) (τ : ZS), (0 ≤ x ∧ x ≤ 1) → PG σ τ → Q x τ) : wpX8_onRegister a b c σ Q := by
  unfold wpX8_onRegister wpX8_onRegister_53
  refine c_operand (by decide) h (fun τ tg t5 => ⟨by decide, fun _ => ?_, fun q => absurd q (by decide)⟩) (fun τ tg => ⟨by decide, fun q => absurd rfl q, fun _ => hQ 0 τ (by decide) ((PG.rf h).o5 tg)⟩)
  have tp := (PG.rf h).o5 tg
  have r5 := t5.1.1
  have e1 : ∀ ω : ZS, PS ω → kp [13] τ ω → Q 1 ω := fun ω wp wk => hQ 1 ω (by decide) (tp.ad wp wk)
  exact ⟨by omega, fun _ => c_addByte tg.1 (tp.2.2.trans ho) e1, fun _ => c_addByte tg.1 (tp.2.2.trans ho) e1⟩
theorem c_single {a b : Int} {σ : ZS} {Q : Int → ZS → Prop} (h : PS σ) (ho : zI σ 14 5 = 1) (hQ : ∀ (x : Int) (τ : ZS), (0 ≤ x ∧ x ≤ 1) → PG σ τ → Q x τ) : wpX8_single a b σ Q := by
  unfold wpX8_single
  refine c_operand (by decide) h (fun τ tg t5 => ⟨by decide, fun _ => ?_, fun q => absurd q (by decide)⟩) (fun τ tg => ⟨by decide, fun q => absurd rfl q, fun _ => hQ 0 τ (by decide) ((PG.rf h).o5 tg)⟩)
  have tp := (PG.rf h).o5 tg
  exact c_addWithM (by decide) tg.1 (tp.2.2.trans ho) t5 (fun ω wp wk => hQ 1 ω (by decide) (tp.ad wp wk))
theorem c_named {t v : Int} {σ : ZS} {Q : Int → ZS → Prop} (h : PS σ) (hat1 : t = 10 → 1 ≤ zI σ 14 4) (ht : (1 ≤ t ∧ t ≤ 3) ∨ (9 ≤ t ∧ t ≤ 12)) (hv : 0 ≤ v ∧ v ≤ 65536) (h9 : (t = 9 → v = 2) ∧ (t = 12 → v = 0)) (ho : t = 2 ∨ t = 3 ∨ zI σ 14 5 = 1) (hQ : ∀ (x : Int) (τ : ZS), (0 ≤ x ∧ x ≤ 1) → PG σ τ → Q x τ) : wpX8_named t v σ Q := by
  have hat := h.at
  have hat2 := h.2.2.1
  unfold wpX8_named
  refine c_take h (by decide) (fun e p => ⟨by decide, fun _ => ?_, fun q => absurd q (by decide)⟩) (fun _ => ⟨by decide, fun q => absurd rfl q, fun _ => hQ 0 σ (by decide) (PG.rf h)⟩)
  have tk := h.tk
  obtain ⟨t1, t2, t3, t4⟩ := tk
  have t4' := t4 e
  have up : PG σ (zsI σ 14 4 (zI σ 14 4 + 1)) := (PG.rf h).on (by omega)
  have f34 : ∀ w : Int, (-1 ≤ w ∧ w ≤ 480) → (t = 10 → 0 ≤ w) → wpX8_named_34 t v (zI σ 14 4) w (zsI σ 14 4 (zI σ 14 4 + 1)) Q := by
    intro w hw hw0
    unfold wpX8_named_34
    refine ⟨hat, c_add p ⟨by omega, hv, ⟨?_, ?_⟩, ?_, hw, fun _ _ _ => ?_, fun _ => ?_, fun q => absurd q (by omega), fun q => ?_, fun _ => ⟨fun q => absurd q (by omega), hw0, h9.2⟩⟩ ?_ (fun τ tp tk _ => hQ 1 τ (by decide) (up.ad tp tk))⟩
    · show -1 ≤ zA σ 12 1 (zI σ 14 4)
      omega
    · exact t4'
    · show -1 ≤ zA σ 12 2 (zI σ 14 4) ∧ zA σ 12 2 (zI σ 14 4) ≤ 480
      omega
    · exact t2.1
    · exact t3.1
    · have := h9.1 q; omega
    · exact Or.inr ho
  refine ⟨by omega, fun q => f34 (-1) (by decide) (fun e10 => by have := hat1 e10; omega), fun q => ?_⟩
  have pl := (h.1.2 (zI σ 14 4 - 1) (by omega) (by omega)).2.2.1
  refine ⟨by omega, f34 _ ?_ (fun _ => ?_)⟩
  · show -1 ≤ zA σ 12 2 (zI σ 14 4 - 1) ∧ zA σ 12 2 (zI σ 14 4 - 1) ≤ 480
    omega
  · show 0 ≤ zA σ 12 2 (zI σ 14 4 - 1)
    omega
theorem c_numbered {t l : Int} {σ : ZS} {Q : Int → ZS → Prop} (h : PS σ) (ht : (t = 4 ∧ l = 256) ∨ (t = 5 ∧ l = 65)) (ho : zI σ 14 5 = 1) (hQ : ∀ (x : Int) (τ : ZS), (0 ≤ x ∧ x ≤ 1) → PG σ τ → Q x τ) : wpX8_numbered t l σ Q := by
  have tk := h.tk
  obtain ⟨t1, t2, t3, t4⟩ := tk
  have hN := h.2.2.2.2.2.2
  unfold wpX8_numbered wpX8_numbered_16
  refine c_type h ⟨by omega, fun _ => hQ 0 σ (by decide) (PG.rf h), fun e2 => c_value h ⟨by omega, by omega, fun lt => c_value h ?_, fun _ => hQ 0 σ (by decide) (PG.rf h)⟩⟩
  refine c_add h ⟨by omega, t2, by omega, by decide, by decide, fun q1 q2 => absurd ht (by omega), fun q => absurd q (by decide), fun q => by omega, fun q => absurd q (by omega), fun q => absurd q (by omega)⟩ (Or.inr (Or.inr (Or.inr ho))) (fun τ tp tk _ => hQ 1 _ (by decide) (((PG.rf h).ad tp tk).on ?_))
  rw [tk.A (by decide) 0, tk.I (by decide) 4]; omega
theorem c_words {σ : ZS} {Q : Int → ZS → Prop} (h : PS σ) (ho : zI σ 14 5 = 1) (hQ : ∀ (x : Int) (τ : ZS), (0 ≤ x ∧ x ≤ 1) → PG σ τ → Q x τ) : wpX8_words σ Q := by
  unfold wpX8_words wpX8_words_2
  refine lfp1_ind (fun v _ => (481 - v).toNat) (fun v τ => PG σ τ ∧ (0 ≤ v ∧ v ≤ 481)) (fun K v τ hI ih => ?_) ⟨PG.rf h, by decide⟩
  obtain ⟨tg, v0⟩ := hI
  have hz := tg.1.1.1
  unfold wpbX8_words_2
  refine ⟨by omega, by omega, fun _ => hQ 0 τ (by decide) tg, fun a => c_operand (by decide) tg.1 (fun υ ug u5 => ⟨by decide, fun _ => ?_, fun q => absurd q (by decide)⟩) (fun υ ug => ⟨by decide, fun q => absurd rfl q, fun _ => hQ 0 υ (by decide) (tg.o5 ug)⟩)⟩
  have up := tg.o5 ug
  refine c_addValue (by decide) ug.1 (up.2.2.trans ho) u5 (fun ω wp wk => ?_)
  have wg := up.ad wp wk
  exact c_take wp (by decide) (fun e p => ⟨by decide, fun _ => ih _ _ ⟨wg.on (by omega), by omega⟩ (by omega), fun q => absurd q (by decide)⟩) (fun _ => ⟨by decide, fun q => absurd rfl q, fun _ => hQ 1 ω (by decide) wg⟩)
theorem c_bytes {σ : ZS} {Q : Int → ZS → Prop} (h : PS σ) (ho : zI σ 14 5 = 1) (hQ : ∀ (x : Int) (τ : ZS), (0 ≤ x ∧ x ≤ 1) → PG σ τ → Q x τ) : wpX8_bytes σ Q := by
  unfold wpX8_bytes wpX8_bytes_2
  refine lfp1_ind (fun v _ => (481 - v).toNat) (fun v τ => PG σ τ ∧ (0 ≤ v ∧ v ≤ 481)) (fun K v τ hI ih => ?_) ⟨PG.rf h, by decide⟩
  obtain ⟨tg, v0⟩ := hI
  have hz := tg.1.1.1
  unfold wpbX8_bytes_2
  refine ⟨by omega, by omega, fun _ => hQ 0 τ (by decide) tg, fun a => c_numbered tg.1 (Or.inl ⟨rfl, rfl⟩) (tg.2.2.trans ho) (fun x ω hx wg => ⟨by omega, fun _ => ?_, fun _ => hQ 0 ω (by decide) (tg.tr wg)⟩)⟩
  have wg' := tg.tr wg
  exact c_take wg.1 (by decide) (fun e p => ⟨by decide, fun _ => ih _ _ ⟨wg'.on (by omega), by omega⟩ (by omega), fun q => absurd q (by decide)⟩) (fun _ => ⟨by decide, fun q => absurd rfl q, fun _ => hQ 1 ω (by decide) wg'⟩)
theorem c_bitCount {a : Int} {σ : ZS} {Q : Int → ZS → Prop} (ha : 1 ≤ a ∧ a ≤ 16) (h1 : ∀ x : Int, (-2147483648 ≤ x ∧ x ≤ 2147483647) → (x = 1 → al a) → (al a → x = 1) → Q x σ) : wpJ6_bitCount_0f7a4 a σ Q := by
  unfold wpJ6_bitCount_0f7a4
  have hc : a = 1 ∨ a = 2 ∨ a = 3 ∨ a = 4 ∨ a = 5 ∨ a = 6 ∨ a = 7 ∨ a = 8 ∨ a = 9 ∨ a = 10 ∨ a = 11 ∨ a = 12 ∨ a = 13 ∨ a = 14 ∨ a = 15 ∨ a = 16 := by omega
  rcases hc with rfl | rfl | rfl | rfl | rfl | rfl | rfl | rfl | rfl | rfl | rfl | rfl | rfl | rfl | rfl | rfl <;> exact ⟨by decide, by decide, by decide, by decide, by decide, h1 _ (by decide) (by unfold al; decide) (by unfold al; decide)⟩
theorem c_isAlign {a : Int} {σ : ZS} {Q : Int → ZS → Prop} (ha : 0 ≤ a ∧ a ≤ 65536) (h1 : al a → Q 1 σ) (h0 : ¬ al a → Q 0 σ) : wpX8_isAlign a σ Q := by
  unfold wpX8_isAlign wpX8_isAlign_23 wpX8_isAlign_24
  exact ⟨by omega, fun _ => ⟨by decide, h0 (by unfold al; omega)⟩, fun _ => ⟨fun _ => ⟨by decide, h0 (by unfold al; omega)⟩, fun _ => c_bitCount (by omega) (fun x hx q1 q2 => ⟨hx, fun n => ⟨by decide, h0 (fun q => n (q2 q))⟩, fun e => ⟨by decide, h1 (q1 e)⟩⟩)⟩⟩
theorem PS.op {σ : ZS} (h : PS σ) (ho : zI σ 13 7 = 248 ∨ ∃ j : Int, 0 ≤ j ∧ j < zI σ 13 7 ∧ zA σ 13 0 j = 0) : PS (zsI σ 14 5 1) := by
  obtain ⟨h1, h2, h3, h4, h5, ⟨o1, o2⟩, h7⟩ := h
  exact ⟨h1.k (ob_i (by decide)) (ob_i (by decide)), h2, h3, (show (0 : Int) ≤ 1 ∧ (1 : Int) ≤ 1 by decide), h5.k (ob_i (by decide)) (ob_i (by decide)), ⟨o1, fun _ => ho⟩, h7⟩
theorem c_seg {σ : ZS} {Q : Int → ZS → Prop} (h : PS σ) (hQ : ∀ (x : Int) (τ : ZS), (0 ≤ x ∧ x ≤ 1) → PS τ → kp [5, 6, 13, 14] σ τ → Q x τ) : wpX8_seg σ Q := by
  unfold wpX8_seg wpX8_seg_33
  have tk := h.tk
  obtain ⟨t1, t2, t3, t4⟩ := tk
  refine c_take h (by decide) (fun e p => ⟨by decide, fun _ => ?_, fun q => absurd q (by decide)⟩) (fun _ => ⟨by decide, fun q => absurd rfl q, fun _ => hQ 0 σ (by decide) h kp.rf⟩)
  have t4' := t4 e
  have k1 : kp [5, 6, 13, 14] σ (zsI σ 14 4 (zI σ 14 4 + 1)) := kp.i (by decide)
  have tk' := p.tk
  have q0 : Q 0 (zsI σ 14 4 (zI σ 14 4 + 1)) := hQ 0 _ (by decide) p k1
  refine c_type p ⟨by have := tk'.1; omega, fun _ => q0, fun e2 => c_value p (c_isAlign tk'.2.1 (fun a => ⟨by decide, fun _ => c_value p ?_, fun q => absurd q (by decide)⟩) (fun _ => ⟨by decide, fun q => absurd rfl q, fun _ => q0⟩))⟩
  unfold wpX8_addNamed
  refine ⟨h.at, c_add p ⟨by decide, tk'.2.1, ⟨?_, t4'⟩, ?_, by decide, fun _ _ _ => t2.1, fun _ => t3.1, fun q => absurd q (by decide), fun q => absurd q (by decide), fun _ => ⟨fun _ => a, fun q => absurd q (by decide), fun q => absurd q (by decide)⟩⟩ (Or.inl rfl) (fun τ tp tk ex => ?_)⟩
  · show -1 ≤ zA σ 12 1 (zI σ 14 4)
    omega
  · show -1 ≤ zA σ 12 2 (zI σ 14 4) ∧ zA σ 12 2 (zI σ 14 4) ≤ 480
    omega
  · have on := tp.on (by rw [tk.A (by decide) 0, tk.I (by decide) 4]; omega)
    exact hQ 1 _ (by decide) (on.op ex) (((k1.tr (tk.up (by decide))).ti (by decide)).ti (by decide))
theorem c_label {σ : ZS} {Q : Int → ZS → Prop} (h : PS σ) (hn : zA σ 12 0 (zI σ 14 4) = 3) (hQ : ∀ (x : Int) (τ : ZS), (0 ≤ x ∧ x ≤ 1) → PG σ τ → Q x τ) : wpX8_label σ Q := by
  have o := h.2.2.2.1
  have tk := h.tk
  obtain ⟨t1, t2, t3, t4⟩ := tk
  have t4' := t4 hn
  have on : PG σ (zsI σ 14 4 (zI σ 14 4 + 1)) := (PG.rf h).on (by omega)
  unfold wpX8_label wpX8_addNamed
  refine ⟨by omega, fun n0 => c_take on.1 (by decide) (fun e p => ⟨by decide, fun _ => ⟨h.at, ?_⟩, fun q => absurd q (by decide)⟩) (fun _ => ⟨by decide, fun q => absurd rfl q, fun _ => hQ 0 _ (by decide) on⟩), fun _ => hQ 0 σ (by decide) (PG.rf h)⟩
  have on2 := on.on (by omega)
  refine c_add on2.1 ⟨by decide, by decide, ⟨?_, t4'⟩, ?_, by decide, fun _ _ _ => t2.1, fun _ => t3.1, fun q => absurd q (by decide), fun q => absurd q (by decide), fun q => absurd q (by decide)⟩ (Or.inr (Or.inr (Or.inr ?_))) (fun τ tp tk _ => hQ 1 τ (by decide) (on2.ad tp tk))
  · show -1 ≤ zA σ 12 1 (zI σ 14 4)
    omega
  · show -1 ≤ zA σ 12 2 (zI σ 14 4) ∧ zA σ 12 2 (zI σ 14 4) ≤ 480
    omega
  · show zI σ 14 5 = 1
    omega
theorem c_directive {f : Int} {σ : ZS} {Q : Int → ZS → Prop} (h : PS σ) (hn : zA σ 12 0 (zI σ 14 4) ≠ 0) (hf : 0 ≤ f ∧ f ≤ 5) (ho : 3 ≤ f → zI σ 14 5 = 1) (hQ : ∀ (x : Int) (τ : ZS), (0 ≤ x ∧ x ≤ 1) → PS τ → kp [5, 6, 13, 14] σ τ → Q x τ) : wpX8_directive f σ Q := by
  have on : PG σ (zsI σ 14 4 (zI σ 14 4 + 1)) := (PG.rf h).on hn
  have fin : ∀ (x : Int) (τ : ZS), (0 ≤ x ∧ x ≤ 1) → PG (zsI σ 14 4 (zI σ 14 4 + 1)) τ → (0 ≤ x ∧ x ≤ 1) ∧ Q x τ := fun x τ hx tg => ⟨hx, hQ x τ hx tg.1 (on.2.1.tr tg.2.1)⟩
  unfold wpX8_directive
  exact ⟨by omega, fun _ => c_seg on.1 (fun x τ hx tp tk => ⟨hx, hQ x τ hx tp (on.2.1.tr tk)⟩), fun _ => ⟨fun _ => c_named on.1 (fun q => absurd q (by decide)) (by decide) (by decide) ⟨fun q => absurd q (by decide), fun q => absurd q (by decide)⟩ (Or.inl rfl) fin, fun _ => ⟨fun _ => c_named on.1 (fun q => absurd q (by decide)) (by decide) (by decide) ⟨fun q => absurd q (by decide), fun q => absurd q (by decide)⟩ (Or.inr (Or.inl rfl)) fin, fun _ => ⟨fun _ => c_words on.1 (ho (by omega)) fin, fun _ => ⟨fun _ => c_bytes on.1 (ho (by omega)) fin, fun _ => c_numbered on.1 (Or.inr ⟨rfl, rfl⟩) (ho (by omega)) fin⟩⟩⟩⟩⟩
theorem c_instruction {f c : Int} {σ : ZS} {Q : Int → ZS → Prop} (h : PS σ) (hn : zA σ 12 0 (zI σ 14 4) ≠ 0) (hf : 0 ≤ f ∧ f ≤ 17) (hc : 0 ≤ c ∧ c ≤ 65536) (ho : zI σ 14 5 = 1) (hQ : ∀ (x : Int) (τ : ZS), (0 ≤ x ∧ x ≤ 1) → PG σ τ → Q x τ) : wpX8_instruction f c σ Q := by
  have on : PG σ (zsI σ 14 4 (zI σ 14 4 + 1)) := (PG.rf h).on hn
  have oo : zI (zsI σ 14 4 (zI σ 14 4 + 1)) 14 5 = 1 := ho
  have oa : 1 ≤ zI (zsI σ 14 4 (zI σ 14 4 + 1)) 14 4 := by
    rw [zI_s]
    have := h.2.2.1
    omega
  have fin : ∀ (x : Int) (τ : ZS), (0 ≤ x ∧ x ≤ 1) → PG (zsI σ 14 4 (zI σ 14 4 + 1)) τ → (0 ≤ x ∧ x ≤ 1) ∧ Q x τ := fun x τ hx tg => ⟨hx, hQ x τ hx (on.tr tg)⟩
  have f174 : wpX8_instruction_174 c (zsI σ 14 4 (zI σ 14 4 + 1)) Q := by
    unfold wpX8_instruction_174
    exact c_addByte on.1 oo (fun τ tp tk => hQ 1 τ (by decide) (on.ad tp tk))
  unfold wpX8_instruction
  refine ⟨by omega, fun _ => c_mov on.1 oo fin, fun _ => ⟨fun _ => c_arithmetic on.1 oo fin, fun _ => ⟨fun _ => c_onRegister on.1 oo fin, fun _ => ⟨fun _ => c_onRegister on.1 oo fin, fun _ => ⟨fun _ => c_onRegister on.1 oo fin, fun _ => ⟨fun _ => ⟨by omega, c_single on.1 oo fin⟩, fun _ => ⟨fun _ => c_named on.1 (fun q => absurd q (by decide)) (by decide) (by decide) ⟨fun _ => rfl, fun q => absurd q (by decide)⟩ (Or.inr (Or.inr oo)) fin, fun _ => ⟨fun _ => c_named on.1 (fun _ => oa) (by decide) hc ⟨fun q => absurd q (by decide), fun q => absurd q (by decide)⟩ (Or.inr (Or.inr oo)) fin, fun _ => ⟨fun _ => c_named on.1 (fun q => absurd q (by decide)) (by decide) (by decide) ⟨fun q => absurd q (by decide), fun _ => rfl⟩ (Or.inr (Or.inr oo)) fin, fun _ => ⟨fun _ => c_named on.1 (fun q => absurd q (by decide)) (by decide) (by decide) ⟨fun q => absurd q (by decide), fun _ => rfl⟩ (Or.inr (Or.inr oo)) fin, fun _ => ⟨fun _ => f174, fun _ => ⟨fun _ => c_addByte on.1 oo (fun τ tp tk => ?_), fun _ => f174⟩⟩⟩⟩⟩⟩⟩⟩⟩⟩⟩⟩
  have og := on.ad tp tk
  exact c_numbered tp (Or.inl ⟨rfl, rfl⟩) (og.2.2.trans ho) (fun x υ hx ug => ⟨hx, hQ x υ hx (og.tr ug)⟩)
theorem zform_bd {i : Int} (h : 0 ≤ i ∧ i < 36) : 0 ≤ zform i ∧ zform i ≤ 17 := by
  have key : ∀ n : Nat, n < 36 → 0 ≤ zFORM.getD n 0 ∧ zFORM.getD n 0 ≤ 17 := by decide
  exact key i.toNat (by omega)
theorem zcode_bd {i : Int} (h : 0 ≤ i ∧ i < 36) : 0 ≤ zcode i ∧ zcode i ≤ 65536 := by
  have key : ∀ n : Nat, n < 36 → 0 ≤ zCODE.getD n 0 ∧ zCODE.getD n 0 ≤ 65536 := by decide
  exact key i.toNat (by omega)
theorem c_mayStand {a : Int} {σ : ZS} {Q : Int → ZS → Prop} (h : PS σ) (ha : 0 ≤ a ∧ a ≤ 65536) (h1 : a < 36 → (zI σ 14 5 = 1 ∨ zform a ≤ 2) → Q 1 σ) (h0 : Q 0 σ) : wpX8_mayStand a σ Q := by
  have o := h.2.2.2.1
  unfold wpX8_mayStand wpX8_mayStand_28 wpX8_mayStand_32 wpX8_mayStand_33
  refine ⟨by omega, fun _ => ⟨by decide, h0⟩, fun _ => ⟨fun _ => ⟨by decide, h0⟩, fun lt => ⟨by omega, fun _ => ⟨by decide, h1 (by omega) (Or.inl (by omega))⟩, fun _ => ⟨by omega, ?_, fun _ => ⟨by decide, h0⟩, fun q => ⟨by decide, h1 (by omega) (Or.inr (by omega))⟩⟩⟩⟩⟩
  have := zform_bd (i := a) (by omega)
  omega
theorem c_parse {σ : ZS} {Q : Int → ZS → Prop} (hR : RD σ) (he : 1 ≤ zI σ 12 3 ∧ zA σ 12 0 (zI σ 12 3 - 1) = 0) (hQ : ∀ (x : Int) (τ : ZS), PS τ → kp [5, 6, 13, 14] σ τ → (-1 ≤ x ∧ x ≤ 480) → Q x τ) : wpX8_parse σ Q := by
  obtain ⟨rS, rR, rF, rT⟩ := hR
  unfold wpX8_parse wpX8_parse_20
  refine lfp1_ind (fun v _ => (481 - v).toNat) (fun v τ => PS τ ∧ kp [5, 6, 13, 14] σ τ ∧ (0 ≤ v ∧ v ≤ 481)) (fun K v τ hI ih => ?_) ⟨⟨?_, he, ?_, ?_, ⟨?_, fun i i0 i1 => ?_, fun i i0 i1 => ?_⟩, ⟨fun i i0 i1 => ?_, fun q => absurd rfl q⟩, rS.1⟩, ((kp.rf.ti (by decide)).ti (by decide)).ti (by decide), by decide⟩
  · obtain ⟨tp, tk, v0⟩ := hI
    have hz := tp.1.1
    have f146 : ∀ υ : ZS, PS υ → kp [5, 6, 13, 14] τ υ → wpX8_parse_146 υ Q := fun υ up uk => ⟨up.at, hQ _ υ up (tk.tr uk) (by have := up.tk.2.2.1; omega)⟩
    have f133 : ∀ (s : Int) (υ : ZS), v < zI τ 12 3 → (0 ≤ s ∧ s ≤ 1) → PS υ → kp [5, 6, 13, 14] τ υ → wpX8_parse_133 K v s υ Q := by
      intro s υ hv hs up uk
      unfold wpX8_parse_133
      exact ⟨by omega, fun _ => f146 υ up uk, fun _ => c_take up (by decide) (fun e p => ⟨by decide, fun _ => ih _ _ ⟨p, (tk.tr uk).ti (by decide), by omega⟩ (by omega), fun q => absurd q (by decide)⟩) (fun _ => ⟨by decide, fun q => absurd rfl q, fun _ => f146 υ up uk⟩)⟩
    have f58 : ∀ (s : Int) (υ : ZS), v < zI τ 12 3 → (0 ≤ s ∧ s ≤ 1) → PS υ → kp [5, 6, 13, 14] τ υ → wpX8_parse_58 K v s υ Q := by
      intro s υ hv hs up uk
      have ut := up.tk
      have fin : ∀ (x : Int) (ω : ZS), (0 ≤ x ∧ x ≤ 1) → PS ω → kp [5, 6, 13, 14] υ ω → (-2147483648 ≤ x ∧ x ≤ 2147483647) ∧ (x = 0 → wpX8_parse_131 K v ω Q) ∧ (¬ x = 0 → wpX8_parse_127 K v ω Q) := by
        intro x ω hx wp wk
        unfold wpX8_parse_131 wpX8_parse_127 wpX8_parse_132
        exact ⟨by omega, fun _ => f133 0 ω hv (by decide) wp (uk.tr wk), fun _ => f133 1 ω hv (by decide) wp (uk.tr wk)⟩
      unfold wpX8_parse_58
      refine ⟨by omega, fun _ => f133 s υ hv hs up uk, fun _ => c_type up ⟨by have := ut.1; omega, fun _ => f133 s υ hv hs up uk, fun e6 => c_value up (c_mayStand up ut.2.1 (fun lt o => ⟨by decide, fun q => absurd q (by decide), fun _ => ⟨?_, ?_, fun f6 => ?_, fun f5 => ?_⟩⟩) ⟨by decide, fun _ => (fin 0 υ (by decide) up kp.rf).2.1 rfl, fun q => absurd rfl q⟩)⟩⟩
      · have := ut.2.1; omega
      · have := zform_bd (i := zA υ 12 1 (zI υ 14 4)) ⟨ut.2.1.1, lt⟩; omega
      · have b := zform_bd (i := zA υ 12 1 (zI υ 14 4)) ⟨ut.2.1.1, lt⟩
        exact c_instruction up (by omega) b (zcode_bd ⟨ut.2.1.1, lt⟩) (by omega) (fun x ω hx wg => fin x ω hx wg.1 wg.2.1)
      · have b := zform_bd (i := zA υ 12 1 (zI υ 14 4)) ⟨ut.2.1.1, lt⟩
        exact c_directive up (by omega) (by omega) (fun q => by omega) fin
    have tt := tp.tk
    unfold wpbX8_parse_20 wpX8_parse_165 wpX8_parse_53
    refine ⟨by omega, by omega, fun _ => hQ _ τ tp tk (by decide), fun a => c_type tp ⟨by have := tt.1; omega, fun _ => hQ _ τ tp tk (by decide), fun n0 => c_type tp ⟨by have := tt.1; omega, fun _ => f58 1 τ (by omega) (by decide) tp kp.rf, fun e3 => c_label tp e3 (fun x ω hx wg => ⟨by omega, fun _ => f58 0 ω (by omega) (by decide) wg.1 wg.2.1, fun _ => f58 1 ω (by omega) (by decide) wg.1 wg.2.1⟩)⟩⟩⟩
  · exact rT.k (((ob_i (by decide)).trans (ob_i (by decide))).trans (ob_i (by decide))) (((ob_i (by decide)).trans (ob_i (by decide))).trans (ob_i (by decide)))
  · show (0 : Int) ≤ 0 ∧ (0 : Int) ≤ zI σ 12 3 - 1
    omega
  · show (0 : Int) ≤ 0 ∧ (0 : Int) ≤ 1
    decide
  · show (0 : Int) ≤ 0 ∧ (0 : Int) ≤ 248
    decide
  · have i1' : i < 0 := i1
    omega
  · have i1' : i < 0 := i1
    omega
  · have i1' : i < 0 := i1
    omega
/-! C: names are judged -/
def DJ (σ : ZS) : Prop := DIw σ ∧ (∀ i : Int, 0 ≤ i → i < zI σ 13 7 → zA σ 13 0 i = 0 ∨ zA σ 13 0 i = 2 ∨ zA σ 13 0 i = 3 ∨ ∃ j : Int, 0 ≤ j ∧ j < i ∧ zA σ 13 0 j = 0)
def LRg (σ : ZS) : Prop := ∀ s : Int, 0 ≤ s → s < 60 → (0 ≤ zA σ 15 2 s ∧ zA σ 15 2 s < 240) ∧ (0 ≤ zA σ 15 3 s ∧ zA σ 15 3 s ≤ 20000)
def RO (σ : ZS) : Prop := ∀ n : Int, 0 ≤ n → n < zI σ 11 5 → (zA σ 11 1 n = 0 → zA σ 11 2 n = -1) ∧ (zA σ 11 1 n = 1 → 0 ≤ zA σ 11 2 n ∧ zA σ 11 2 n < zI σ 15 4 ∧ al (zA σ 11 3 n)) ∧ (zA σ 11 1 n = 2 → -1 ≤ zA σ 11 2 n ∧ zA σ 11 2 n < zI σ 15 4 ∧ (zI σ 15 5 < 0 → 0 ≤ zA σ 11 2 n)) ∧ (zA σ 11 1 n = 3 → zA σ 11 2 n = -1)
def SN (σ : ZS) : Prop := ∀ s : Int, 0 ≤ s → s < zI σ 15 4 → (0 ≤ zA σ 15 2 s ∧ zA σ 15 2 s < zI σ 11 5) ∧ zA σ 11 1 (zA σ 15 2 s) = 1 ∧ zA σ 11 2 (zA σ 15 2 s) = s
def LY (σ : ZS) : Prop := NR σ ∧ NS σ ∧ DJ σ ∧ (0 ≤ zI σ 15 4 ∧ zI σ 15 4 ≤ 60) ∧ (-1 ≤ zI σ 15 5 ∧ zI σ 15 5 ≤ 480) ∧ (0 ≤ zI σ 11 6 → 0 ≤ zI σ 15 5) ∧ LRg σ ∧ RO σ ∧ SN σ
def CU (σ : ZS) (c i : Int) : Prop := (-1 ≤ c ∧ c < zI σ 15 4) ∧ (zI σ 15 5 < 0 → 0 ≤ c ∨ (zI σ 15 4 = 0 ∧ ∀ j : Int, 0 ≤ j → j < i → zA σ 13 0 j ≠ 0))
def DS (σ : ZS) (i : Int) : Prop := ∀ j : Int, 0 ≤ j → j < i → -1 ≤ zA σ 13 5 j ∧ zA σ 13 5 j < zI σ 15 4
theorem DJ.k {σ τ : ZS} (h : DJ σ) (e5 : zI τ 11 5 = zI σ 11 5) (e' : ob τ 13 = ob σ 13) : DJ τ := by
  have e3 := ob_I e'; have e4 := ob_A e'
  unfold DJ DIw; simp only [e5, e3, e4]; exact h
theorem LY.bl {σ : ZS} {v : Int} (h : LY σ) (v0 : 0 ≤ v) (v1 : v ≤ 480) : LY (zsI σ 15 5 v) := by
  obtain ⟨a1, a2, a3, a4, a5, a6, a7, a8, a9⟩ := h
  refine ⟨a1, a2, a3.k rfl (ob_i (by decide)), a4, ?_, fun _ => v0, a7, fun n n0 n1 => ?_, a9⟩
  · show -1 ≤ v ∧ v ≤ 480
    omega
  · obtain ⟨b0, b1, b2, b3⟩ := a8 n n0 n1
    refine ⟨b0, b1, fun e => ⟨(b2 e).1, (b2 e).2.1, fun q => ?_⟩, b3⟩
    have q' : v < 0 := q
    omega
theorem LY.it {σ : ZS} {i : Int} (h : LY σ) (i0 : 0 ≤ i) (i1 : i < zI σ 13 7) : ITw (zI σ 11 5) (zA σ 13 0 i) (zA σ 13 1 i) (zA σ 13 2 i) (zA σ 13 3 i) (zA σ 13 4 i) := h.2.2.1.1.2.1 i i0 i1
theorem LY.sz {σ : ZS} (h : LY σ) : 0 ≤ zI σ 13 7 ∧ zI σ 13 7 ≤ 248 := h.2.2.1.1.1
theorem c_blame {σ : ZS} {p : Int} {Q : ZS → Prop} (h : LY σ) (hp : 0 ≤ p ∧ p ≤ 480) (h0 : 0 ≤ zI σ 15 5 → Q σ) (hb : ∀ v : Int, 0 ≤ v → v ≤ 480 → Q (zsI σ 15 5 v)) : wpX2_blame p σ Q := by
  have a5 := h.2.2.2.2.1
  unfold wpX2_blame wpX2_blame_15 wpX2_blame_20
  exact ⟨by omega, fun _ => hb _ hp.1 hp.2, fun q => ⟨by omega, fun _ => h0 (by omega), fun _ => hb _ hp.1 hp.2⟩⟩
theorem c_mayDeclare {σ : ZS} {i : Int} {Q : Int → ZS → Prop} (h : LY σ) (hi : 0 ≤ i ∧ i < zI σ 13 7) (hn : 0 ≤ zA σ 13 2 i) (h1 : zA σ 11 1 (zA σ 13 2 i) = 0 → Q 1 σ) (h0 : 0 ≤ zI σ 15 5 → Q 0 σ) (hb : ∀ v : Int, 0 ≤ v → v ≤ 480 → Q 0 (zsI σ 15 5 v)) : wpX2_mayDeclare i σ Q := by
  have hz := h.sz
  obtain ⟨i1, i2, i3, i4, i5, i6, i7, i8, i9, i10⟩ := h.it hi.1 hi.2
  have hN := h.2.1.1
  have hc := h.2.1.2.1
  have hr := (h.1 (zA σ 13 2 i) hn (by omega)).2.1
  have hp := i7 hn
  unfold wpX2_mayDeclare wpX2_mayDeclare_43
  exact ⟨by omega, by omega, by omega, fun _ => c_blame h (by omega) h0 hb, fun e => ⟨by omega, by omega, fun _ => c_blame h (by omega) h0 hb, fun _ => h1 e⟩⟩
theorem c_openSegment {σ : ZS} {i c : Int} {Q : Int → ZS → Prop} (h : LY σ) (hi : 0 ≤ i ∧ i < zI σ 13 7) (ht : zA σ 13 0 i = 0) (hc : CU σ c i) (hQ : ∀ (x : Int) (τ : ZS), LY τ → CU τ x (i + 1) → ob τ 13 = ob σ 13 → kp [11, 15] σ τ → zI σ 15 4 ≤ zI τ 15 4 → Q x τ) : wpX2_openSegment i c σ Q := by
  have hz := h.sz
  have hit := h.it hi.1 hi.2
  obtain ⟨i1, i2, i3, i4, i5, i6, i7, i8, i9, i10⟩ := hit
  have hn : 0 ≤ zA σ 13 2 i := i6 (by omega) (by omega) (by omega)
  have hal := (i10 (Or.inl ht)).1 ht
  obtain ⟨a1, a2, a3, a4, a5, a6, a7, a8, a9⟩ := h
  have h : LY σ := ⟨a1, a2, a3, a4, a5, a6, a7, a8, a9⟩
  have hN := a2.1
  have hr := a1 (zA σ 13 2 i) hn (by omega)
  obtain ⟨b0, b1, b2, b3⟩ := a8 (zA σ 13 2 i) hn (by omega)
  obtain ⟨c1, c2⟩ := hc
  -- opened
  have key : ∀ τ : ZS, zA σ 11 1 (zA σ 13 2 i) = 0 → zI σ 15 4 < 60 → kp [11, 15] σ τ → zA τ 11 0 = zA σ 11 0 → zA τ 11 1 = zu (zA σ 11 1) (zA σ 13 2 i) 1 → zA τ 11 2 = zu (zA σ 11 2) (zA σ 13 2 i) (zI σ 15 4) → zA τ 11 3 = zu (zA σ 11 3) (zA σ 13 2 i) (zA σ 13 1 i) → zA τ 11 4 = zA σ 11 4 → zI τ 11 5 = zI σ 11 5 → zI τ 11 6 = zI σ 11 6 → zA τ 15 2 = zu (zA σ 15 2) (zI σ 15 4) (zA σ 13 2 i) → zA τ 15 3 = zA σ 15 3 → zI τ 15 4 = zI σ 15 4 + 1 → zI τ 15 5 = zI σ 15 5 → Q (zI σ 15 4 + 1 - 1) τ := by
    intro τ r0 lt k e0 e1 e2 e3 e4 e5 e6 f2 f3 f4 f5
    have e13 := k 13 (by decide)
    refine hQ _ τ ⟨fun n n0 n1 => ?_, ?_, a3.k e5 e13, by omega, by omega, by rw [e6, f5]; exact a6, fun s s0 s1 => ?_, fun n n0 n1 => ?_, fun s s0 s1 => ?_⟩ ⟨by omega, fun _ => Or.inl (by omega)⟩ e13 k (by omega)
    · obtain ⟨x0, x1, x2, x3, x4⟩ := a1 n n0 n1
      rw [e0, e1, e2, e3, e4]
      by_cases e : n = zA σ 13 2 i
      · rw [e, pu_eq, pu_eq, pu_eq]
        rw [e] at x0 x4
        have : zA σ 13 1 i ≤ 16 := by unfold al at hal; omega
        exact ⟨x0, by decide, by omega, by omega, x4⟩
      · rw [pu_ne e, pu_ne e, pu_ne e]; exact ⟨x0, x1, x2, x3, x4⟩
    · unfold NS; rw [e5, e6]; exact a2
    · rw [f2, f3]
      refine ⟨?_, (a7 s s0 s1).2⟩
      by_cases e : s = zI σ 15 4
      · rw [e, pu_eq]; omega
      · rw [pu_ne e]; exact (a7 s s0 s1).1
    · rw [e5] at n1
      rw [e1, e2, e3, f4, f5]
      by_cases e : n = zA σ 13 2 i
      · rw [e, pu_eq, pu_eq, pu_eq]
        exact ⟨fun q => absurd q (by decide), fun _ => ⟨a4.1, by omega, hal⟩, fun q => absurd q (by decide), fun q => absurd q (by decide)⟩
      · rw [pu_ne e, pu_ne e, pu_ne e]
        obtain ⟨y0, y1, y2, y3⟩ := a8 n n0 n1
        exact ⟨y0, fun q => by obtain ⟨z1, z2, z3⟩ := y1 q; exact ⟨z1, by omega, z3⟩, fun q => by obtain ⟨z1, z2, z3⟩ := y2 q; exact ⟨z1, by omega, z3⟩, y3⟩
    · rw [f4] at s1
      rw [f2, e5, e1, e2]
      by_cases e : s = zI σ 15 4
      · rw [e, pu_eq, pu_eq, pu_eq]; exact ⟨by omega, rfl, rfl⟩
      · rw [pu_ne e]
        obtain ⟨z1, z2, z3⟩ := a9 s s0 (by omega)
        have ne : zA σ 15 2 s ≠ zA σ 13 2 i := fun q => by rw [q] at z2; omega
        rw [pu_ne ne, pu_ne ne]; exact ⟨z1, z2, z3⟩
  have stay : (zI σ 15 5 < 0 → 0 ≤ c) → Q c σ := fun q => hQ c σ h ⟨c1, fun w => Or.inl (q w)⟩ rfl kp.rf (Int.le_refl _)
  have f58 : wpX2_openSegment_58 i c (zA σ 13 2 i) (zA σ 13 1 i) σ Q := by
    unfold wpX2_openSegment_58 wpX2_openSegment_75
    refine c_mayDeclare h hi hn (fun r0 => ⟨by decide, fun q => absurd q (by decide), fun _ => ⟨by omega, fun lt => ⟨by omega, by omega, ?_, ?_⟩, fun ge => stay (fun w => ?_)⟩⟩) (fun w => ⟨by decide, fun _ => stay (fun q => absurd q (by omega)), fun q => absurd rfl q⟩) (fun v v0 v1 => ⟨by decide, fun _ => ?_, fun q => absurd rfl q⟩)
    · show 0 ≤ zI σ 15 4 ∧ zI σ 15 4 < 60
      omega
    · exact key _ r0 lt (((((kp.rf.ta (by decide)).ta (by decide)).ta (by decide)).ta (by decide)).ti (by decide)) rfl rfl rfl rfl rfl rfl rfl rfl rfl rfl rfl
    · rcases c2 w with q | ⟨q, -⟩
      · exact q
      · omega
    · refine hQ c _ (h.bl v0 v1) ⟨c1, fun w => ?_⟩ (ob_i (by decide)) (kp.i (by decide)) (Int.le_refl _)
      have w' : v < 0 := w
      omega
  unfold wpX2_openSegment
  refine ⟨by omega, by omega, by omega, fun _ => f58, fun e1 => ⟨by omega, by omega, fun _ => f58, fun _ => ?_⟩⟩
  obtain ⟨z1, z2, z3⟩ := b1 e1
  exact hQ _ σ h ⟨by omega, fun _ => Or.inl z1⟩ rfl kp.rf (Int.le_refl _)
theorem c_declare {σ : ZS} {i r c : Int} {Q : ZS → Prop} (h : LY σ) (hi : 0 ≤ i ∧ i < zI σ 13 7) (hn : 0 ≤ zA σ 13 2 i) (hr : (r = 2 ∧ (-1 ≤ c ∧ c < zI σ 15 4) ∧ (zI σ 15 5 < 0 → 0 ≤ c)) ∨ (r = 3 ∧ c = -1)) (hQ : ∀ τ : ZS, LY τ → ob τ 13 = ob σ 13 → kp [11, 15] σ τ → zI τ 15 4 = zI σ 15 4 → (zI τ 15 5 < 0 → zI σ 15 5 < 0) → Q τ) : wpX2_declare i r c σ Q := by
  have hz := h.sz
  have hit := h.it hi.1 hi.2
  obtain ⟨i1, i2, i3, i4, i5, i6, i7, i8, i9, i10⟩ := hit
  obtain ⟨a1, a2, a3, a4, a5, a6, a7, a8, a9⟩ := h
  have h : LY σ := ⟨a1, a2, a3, a4, a5, a6, a7, a8, a9⟩
  have hN := a2.1
  have key : ∀ τ : ZS, zA σ 11 1 (zA σ 13 2 i) = 0 → kp [11, 15] σ τ → ob τ 15 = ob σ 15 → zA τ 11 0 = zA σ 11 0 → zA τ 11 1 = zu (zA σ 11 1) (zA σ 13 2 i) r → zA τ 11 2 = zu (zA σ 11 2) (zA σ 13 2 i) c → zA τ 11 3 = zA σ 11 3 → zA τ 11 4 = zA σ 11 4 → zI τ 11 5 = zI σ 11 5 → zI τ 11 6 = zI σ 11 6 → Q τ := by
    intro τ r0 k e15 e0 e1 e2 e3 e4 e5 e6
    have e13 := k 13 (by decide)
    have g1 := ob_I e15; have g2 := ob_A e15
    refine hQ τ ⟨fun n n0 n1 => ?_, ?_, a3.k e5 e13, by rw [g1 4]; exact a4, by rw [g1 5]; exact a5, by rw [e6, g1 5]; exact a6, ?_, fun n n0 n1 => ?_, fun s s0 s1 => ?_⟩ e13 k (g1 4) (fun q => by rw [g1 5] at q; exact q)
    · obtain ⟨x0, x1, x2, x3, x4⟩ := a1 n n0 n1
      rw [e0, e1, e2, e3, e4]
      by_cases e : n = zA σ 13 2 i
      · rw [e, pu_eq, pu_eq]
        rw [e] at x0 x3 x4
        exact ⟨x0, by omega, by omega, x3, x4⟩
      · rw [pu_ne e, pu_ne e]; exact ⟨x0, x1, x2, x3, x4⟩
    · unfold NS; rw [e5, e6]; exact a2
    · unfold LRg; rw [g2 2, g2 3]; exact a7
    · rw [e5] at n1
      rw [e1, e2, e3, g1 4, g1 5]
      by_cases e : n = zA σ 13 2 i
      · rw [e, pu_eq, pu_eq]
        rcases hr with ⟨q1, q2, q3⟩ | ⟨q1, q2⟩
        · exact ⟨fun q => by omega, fun q => by omega, fun _ => ⟨q2.1, q2.2, q3⟩, fun q => by omega⟩
        · exact ⟨fun q => by omega, fun q => by omega, fun q => by omega, fun _ => q2⟩
      · rw [pu_ne e, pu_ne e]; exact a8 n n0 n1
    · rw [g1 4] at s1
      rw [g2 2, e5, e1, e2]
      obtain ⟨z1, z2, z3⟩ := a9 s s0 s1
      have ne : zA σ 15 2 s ≠ zA σ 13 2 i := fun q => by rw [q] at z2; omega
      rw [pu_ne ne, pu_ne ne]; exact ⟨z1, z2, z3⟩
  unfold wpX2_declare wpX2_declare_26 wpX5_make
  refine c_mayDeclare h hi hn (fun r0 => ⟨by decide, fun q => absurd q (by decide), fun _ => ⟨by omega, by omega, key _ r0 ((kp.rf.ta (by decide)).ta (by decide)) ((ob_a (by decide)).trans (ob_a (by decide))) rfl rfl rfl rfl rfl rfl rfl⟩⟩) (fun w => ⟨by decide, fun _ => hQ σ h rfl kp.rf rfl (fun q => q), fun q => absurd rfl q⟩) (fun v v0 v1 => ⟨by decide, fun _ => hQ _ (h.bl v0 v1) (ob_i (by decide)) (kp.i (by decide)) rfl (fun q => ?_), fun q => absurd rfl q⟩)
  have q' : v < 0 := q
  omega
/-- the segment of an item -/
theorem LY.s5 {σ : ZS} {i v : Int} (h : LY σ) : LY (zsA σ 13 5 i v) := h
theorem c_declareAll {σ : ZS} {Q : ZS → Prop} (h1 : NR σ) (h2 : NS σ) (h3 : NF σ) (h4 : DJ σ) (h5 : -1 ≤ zI σ 15 5 ∧ zI σ 15 5 ≤ 480) (h6 : 0 ≤ zI σ 11 6 → 0 ≤ zI σ 15 5) (h7 : LRg σ) (hQ : ∀ τ : ZS, LY τ → DS τ (zI τ 13 7) → kp [11, 13, 15] σ τ → Q τ) : wpX2_declareAll σ Q := by
  unfold wpX2_declareAll wpX2_declareAll_9
  refine lfp2_ind (fun _ v _ => (248 - v).toNat) (fun c v τ => LY τ ∧ CU τ c v ∧ DS τ v ∧ kp [11, 13, 15] σ τ ∧ (0 ≤ v ∧ v ≤ zI τ 13 7)) (fun K c v τ hI ih => ?_) ⟨⟨h1, h2, h4.k rfl (ob_i (by decide)), (show (0 : Int) ≤ 0 ∧ (0 : Int) ≤ 60 by decide), h5, h6, h7, fun n n0 n1 => ?_, fun s s0 s1 => ?_⟩, ⟨(show (-1 : Int) ≤ -1 ∧ (-1 : Int) < 0 by decide), fun _ => Or.inr ⟨rfl, fun j j0 j1 => absurd j0 (by omega)⟩⟩, fun j j0 j1 => absurd j0 (by omega), kp.i (by decide), by decide, h4.1.1.1⟩
  · obtain ⟨ly, cu, ds, k, v0, v1⟩ := hI
    have hz := ly.sz
    -- on to the next
    have next : ∀ (x : Int) (υ : ZS), v < zI τ 13 7 → LY υ → CU υ x (v + 1) → ob υ 13 = ob τ 13 → kp [11, 15] τ υ → zI τ 15 4 ≤ zI υ 15 4 → wpX2_declareAll_90 K x v υ Q := by
      intro x υ lt uy uc e13 uk us
      unfold wpX2_declareAll_90
      refine ⟨by omega, ih _ _ _ ⟨uy.s5, uc, fun j j0 j1 => ?_, (k.tr (uk.up (by decide))).ta (by decide), by omega, ?_⟩ (by omega)⟩
      · show -1 ≤ zu (zA υ 13 5) v x j ∧ zu (zA υ 13 5) v x j < zI υ 15 4
        by_cases e : j = v
        · rw [e, pu_eq]; exact uc.1
        · rw [pu_ne e, ob_A e13 5]
          have := ds j j0 (by omega)
          omega
      · show v + 1 ≤ zI υ 13 7
        rw [ob_I e13 7]; omega
    unfold wpbX2_declareAll_9
    refine ⟨by omega, by omega, fun q => hQ τ ly (by rw [show zI τ 13 7 = v by omega]; exact ds) k, fun lt => ?_⟩
    have it := ly.it v0 (by omega)
    obtain ⟨i1, i2, i3, i4, i5, i6, i7, i8, i9, i10⟩ := it
    obtain ⟨c1, c2⟩ := cu
    have keep : zA τ 13 0 v ≠ 0 → CU τ c (v + 1) := by
      intro ne
      refine ⟨c1, fun w => ?_⟩
      rcases c2 w with q | ⟨q, r⟩
      · exact Or.inl q
      · refine Or.inr ⟨q, fun j j0 j1 => ?_⟩
        by_cases e : j = v
        · rw [e]; exact ne
        · exact r j j0 (by omega)
    have dec : ∀ υ : ZS, zA τ 13 0 v ≠ 0 → LY υ → ob υ 13 = ob τ 13 → kp [11, 15] τ υ → zI υ 15 4 = zI τ 15 4 → (zI υ 15 5 < 0 → zI τ 15 5 < 0) → wpX2_declareAll_90 K c v υ Q := by
      intro υ ne uy e13 uk us uw
      obtain ⟨d1, d2⟩ := keep ne
      refine next c υ (by omega) uy ⟨by rw [us]; exact d1, fun w => ?_⟩ e13 uk (by omega)
      rw [us, ob_A e13 0]; exact d2 (uw w)
    have same : zA τ 13 0 v ≠ 0 → wpX2_declareAll_90 K c v τ Q := fun ne => next c τ (by omega) ly (keep ne) rfl kp.rf (Int.le_refl _)
    refine ⟨by omega, by omega, fun e0 => c_openSegment ly ⟨v0, by omega⟩ e0 ⟨c1, c2⟩ (fun x υ uy uc e13 uk us => next x υ (by omega) uy uc e13 uk us), fun n0 => ⟨fun e1 => ?_, fun _ => ⟨fun _ => same n0, fun _ => ⟨fun e3 => ?_, fun _ => same n0⟩⟩⟩⟩
    · refine c_declare ly ⟨v0, by omega⟩ (i6 (by omega) (by omega) (by omega)) (Or.inl ⟨rfl, c1, fun w => ?_⟩) (fun υ uy e13 uk us uw => dec υ n0 uy e13 uk us uw)
      rcases c2 w with q | ⟨q, r⟩
      · exact q
      · rcases ly.2.2.1.2 v v0 (by omega) with z | z | z | ⟨j, j0, j1, j2⟩
        · omega
        · omega
        · omega
        · exact absurd j2 (r j j0 j1)
    · exact c_declare ly ⟨v0, by omega⟩ (i6 (by omega) (by omega) (by omega)) (Or.inr ⟨rfl, rfl⟩) (fun υ uy e13 uk us uw => dec υ n0 uy e13 uk us uw)
  · obtain ⟨z1, z2⟩ := h3 n n0 n1
    have z1' : zA (zsI σ 15 4 0) 11 1 n = 0 := z1
    rw [z1']
    exact ⟨fun _ => z2, fun q => absurd q (by decide), fun q => absurd q (by decide), fun q => absurd q (by decide)⟩
  · have s1' : s < 0 := s1
    omega
def UR (σ : ZS) (i : Int) : Prop := ∀ j : Int, 0 ≤ j → j < i → zA σ 13 0 j = 2 → zA σ 11 1 (zA σ 13 2 j) = 2
theorem c_isUseRight {σ : ZS} {i : Int} {Q : Int → ZS → Prop} (h : LY σ) (hd : DS σ (zI σ 13 7)) (hi : 0 ≤ i ∧ i < zI σ 13 7) (h1 : (zA σ 13 0 i = 2 → zA σ 11 1 (zA σ 13 2 i) = 2) → Q 1 σ) (h0 : 0 ≤ zA σ 13 2 i → Q 0 σ) : wpX2_isUseRight i σ Q := by
  have hz := h.sz
  have hs := hd i hi.1 hi.2
  obtain ⟨i1, i2, i3, i4, i5, i6, i7, i8, i9, i10⟩ := h.it hi.1 hi.2
  have hN := h.2.1.1
  have a4 := h.2.2.2.1
  have f57 : ∀ s : Int, (0 ≤ s ∧ s ≤ 1) → 0 ≤ zA σ 13 2 i → wpX2_isUseRight_57 i (zA σ 11 1 (zA σ 13 2 i)) s σ Q := by
    intro s hs hn
    have hr := (h.1 (zA σ 13 2 i) hn (by omega)).2.1
    have y : zA σ 13 0 i ≠ 2 → Q 1 σ := fun n => h1 (fun q => absurd q n)
    have f152 : zA σ 13 0 i ≠ 2 → wpX2_isUseRight_152 (zA σ 11 1 (zA σ 13 2 i)) s σ Q := by
      intro n
      unfold wpX2_isUseRight_152 wpX2_isUseRight_162 wpX2_isUseRight_167
      exact ⟨by omega, fun _ => ⟨by decide, y n⟩, fun _ => ⟨by omega, fun _ => ⟨by decide, h0 hn⟩, fun _ => ⟨by decide, y n⟩⟩⟩
    have f139 : zA σ 13 0 i ≠ 2 → wpX2_isUseRight_139 (zA σ 11 1 (zA σ 13 2 i)) σ Q := by
      intro n
      unfold wpX2_isUseRight_139 wpX2_isUseRight_148
      exact ⟨by omega, fun _ => ⟨by decide, h0 hn⟩, fun _ => ⟨by decide, y n⟩⟩
    unfold wpX2_isUseRight_57 wpX2_isUseRight_138 wpX2_isUseRight_184 wpX2_isUseRight_178 wpX2_isUseRight_183
    refine ⟨by omega, by omega, fun _ => ⟨by omega, fun _ => ⟨by decide, h0 hn⟩, fun e => ⟨by decide, h1 (fun _ => e)⟩⟩, fun n2 => ⟨fun _ => y n2, fun _ => ⟨fun _ => y n2, fun _ => ⟨fun _ => y n2, fun _ => ⟨fun _ => y n2, fun _ => ⟨fun _ => f139 n2, fun _ => ⟨fun _ => f139 n2, fun _ => ⟨fun _ => f152 n2, fun _ => ⟨fun _ => ⟨hs, ?_⟩, fun _ => ⟨fun _ => f152 n2, fun _ => ⟨fun _ => ⟨by omega, fun _ => ⟨by decide, y n2⟩, fun _ => ⟨fun _ => ⟨by decide, h0 hn⟩, fun _ => ⟨by decide, y n2⟩⟩⟩, fun _ => y n2⟩⟩⟩⟩⟩⟩⟩⟩⟩⟩⟩
    rcases (by omega : s = 0 ∨ s = 1) with e | e
    · rw [e]; exact h0 hn
    · rw [e]; exact y n2
  unfold wpX2_isUseRight wpX2_isUseRight_56
  refine ⟨by omega, by omega, fun hn => ?_, fun hn => h1 (fun q => absurd (i6 (by omega) (by omega) (by omega)) hn)⟩
  have hr := h.1 (zA σ 13 2 i) hn (by omega)
  exact ⟨by omega, by omega, fun _ => f57 0 (by decide) hn, fun _ => ⟨by omega, by omega, fun _ => f57 0 (by decide) hn, fun _ => f57 1 (by decide) hn⟩⟩
theorem c_firstWrong {σ : ZS} {Q : Int → ZS → Prop} (h1 : NR σ) (h2 : NS σ) (h3 : NF σ) (h4 : DJ σ) (h7 : LRg σ) (hQ : ∀ (x : Int) (τ : ZS), LY τ → DS τ (zI τ 13 7) → x = zI τ 15 5 → (x < 0 → UR τ (zI τ 13 7)) → kp [11, 13, 15] σ τ → Q x τ) : wpX2_firstWrong σ Q := by
  unfold wpX2_firstWrong
  refine c_declareAll h1 h2 h3 (h4.k rfl (ob_i (by decide))) ?_ (fun q => q) h7 (fun τ0 ly0 ds0 k0 => ?_)
  · have := h2.2.1
    show -1 ≤ zI σ 11 6 ∧ zI σ 11 6 ≤ 480
    omega
  unfold wpX2_firstWrong_17
  refine lfp1_ind (fun v _ => (248 - v).toNat) (fun v τ => LY τ ∧ DS τ (zI τ 13 7) ∧ (zI τ 15 5 < 0 → UR τ v) ∧ kp [11, 13, 15] σ τ ∧ (0 ≤ v ∧ v ≤ zI τ 13 7)) (fun K v τ hI ih => ?_) ⟨ly0, ds0, fun _ j j0 j1 => absurd j0 (by omega), (kp.i (by decide)).tr k0, by decide, ly0.sz.1⟩
  obtain ⟨ly, ds, ur, k, v0, v1⟩ := hI
  have hz := ly.sz
  unfold wpbX2_firstWrong_17 wpX2_firstWrong_49
  refine ⟨by omega, by omega, fun q => hQ _ τ ly ds rfl (fun w => by rw [show zI τ 13 7 = v by omega]; exact ur w) k, fun lt => c_isUseRight ly ds ⟨v0, by omega⟩ (fun u => ⟨by decide, fun _ => ih _ _ ⟨ly, ds, fun w j j0 j1 => ?_, k, by omega, by omega⟩ (by omega), fun q => absurd q (by decide)⟩) (fun hn => ⟨by decide, fun q => absurd rfl q, fun _ => ⟨by omega, ?_⟩⟩)⟩
  · by_cases e : j = v
    · rw [e]; exact u
    · exact ur w j j0 (by omega)
  · obtain ⟨i1, i2, i3, i4, i5, i6, i7, i8, i9, i10⟩ := ly.it v0 (show v < zI τ 13 7 by omega)
    have hp := i7 hn
    refine c_blame ly (by omega) (fun w => ih _ _ ⟨ly, ds, fun q => absurd q (by omega), k, by omega, by omega⟩ (by omega)) (fun w w0 w1 => ih _ _ ⟨ly.bl w0 w1, ds, fun q => ?_, k.ti (by decide), ?_⟩ (by omega))
    · have q' : w < 0 := q
      omega
    · show 0 ≤ v + 1 ∧ v + 1 ≤ zI τ 13 7
      omega
/-! C: fills -/
theorem zsF_zsF {σ : ZS} {g : Int} {f : Nat} {h k : Int → Int} : zsF (zsF σ g f h) g f k = zsF σ g f k := by
  unfold zsF
  refine Prod.ext rfl (funext fun g' => funext fun f' => ?_)
  show (if g' = g then (if f' = f then k else (if g' = g then (if f' = f then h else σ.2 g' f') else σ.2 g' f')) else (if g' = g then (if f' = f then h else σ.2 g' f') else σ.2 g' f')) = (if g' = g then (if f' = f then k else σ.2 g' f') else σ.2 g' f')
  by_cases e : g' = g
  · rw [if_pos e, if_pos e, if_pos e]
    by_cases e' : f' = f
    · rw [if_pos e', if_pos e']
    · rw [if_neg e', if_neg e', if_neg e']
  · rw [if_neg e, if_neg e, if_neg e]
theorem zsF_self {σ : ZS} {g : Int} {f : Nat} : zsF σ g f (zA σ g f) = σ := by
  unfold zsF
  refine Prod.ext rfl (funext fun g' => funext fun f' => ?_)
  show (if g' = g then (if f' = f then zA σ g f else σ.2 g' f') else σ.2 g' f') = σ.2 g' f'
  by_cases e : g' = g
  · rw [if_pos e]
    by_cases e' : f' = f
    · rw [if_pos e', e, e']; rfl
    · rw [if_neg e']
  · rw [if_neg e]
theorem zA_F {σ : ZS} {g : Int} {f : Nat} {h : Int → Int} : zA (zsF σ g f h) g f = h := by
  show (if g = g then (if f = f then h else σ.2 g f) else σ.2 g f) = h
  rw [if_pos rfl, if_pos rfl]
theorem zA_Ff {σ : ZS} {g : Int} {f f' : Nat} {h : Int → Int} (e : f' ≠ f) : zA (zsF σ g f h) g f' = zA σ g f' := by
  show (if g = g then (if f' = f then h else σ.2 g f') else σ.2 g f') = _
  rw [if_pos rfl, if_neg e]; rfl
theorem zsA_F {σ : ZS} {g i v : Int} {f : Nat} {h : Int → Int} : zsA (zsF σ g f h) g f i v = zsF σ g f (zu h i v) := by
  unfold zsA
  rw [zA_F, zsF_zsF]
theorem kp.f {G : List Int} {σ : ZS} {g : Int} {f : Nat} {h : Int → Int} (hg : g ∈ G) : kp G σ (zsF σ g f h) := fun g' q => ob_f (fun e => q (e ▸ hg))
theorem kp.tf {G : List Int} {σ τ : ZS} {g : Int} {f : Nat} {h : Int → Int} (k : kp G σ τ) (hg : g ∈ G) : kp G σ (zsF τ g f h) := k.tr (kp.f hg)
theorem c_fill15_3 {σ : ZS} {v : Int} {Q : ZS → Prop} (hQ : ∀ h : Int → Int, (∀ j : Int, 0 ≤ j → j < 60 → h j = v) → Q (zsF σ 15 3 h)) : wpJ7_fill_53178_15_3 v σ Q := by
  unfold wpJ7_fill_53178_15_3 wpJ7_fill_53178_15_3_5
  refine lfp1_ind (fun i _ => (60 - i).toNat) (fun i τ => ∃ h : Int → Int, τ = zsF σ 15 3 h ∧ (0 ≤ i ∧ i ≤ 60) ∧ ∀ j : Int, 0 ≤ j → j < i → h j = v) (fun K i τ hI ih => ?_) ⟨zA σ 15 3, zsF_self.symm, by decide, fun j j0 j1 => absurd j0 (by omega)⟩
  obtain ⟨h, e, hi, hv⟩ := hI
  rw [e]
  unfold wpbJ7_fill_53178_15_3_5
  refine ⟨by omega, by decide, fun q => hQ h (fun j j0 j1 => hv j j0 (by omega)), fun q => ⟨by omega, ih _ _ ⟨zu h i v, zsA_F, by omega, fun j j0 j1 => ?_⟩ (by omega)⟩⟩
  by_cases e' : j = i
  · rw [e', pu_eq]
  · rw [pu_ne e']; exact hv j j0 (by omega)
theorem c_fill17_2 {σ : ZS} {v : Int} {Q : ZS → Prop} (hQ : ∀ h : Int → Int, (∀ j : Int, 0 ≤ j → j < 1200 → h j = v) → Q (zsF σ 17 2 h)) : wpJ7_fill_53178_17_2 v σ Q := by
  unfold wpJ7_fill_53178_17_2 wpJ7_fill_53178_17_2_5
  refine lfp1_ind (fun i _ => (1200 - i).toNat) (fun i τ => ∃ h : Int → Int, τ = zsF σ 17 2 h ∧ (0 ≤ i ∧ i ≤ 1200) ∧ ∀ j : Int, 0 ≤ j → j < i → h j = v) (fun K i τ hI ih => ?_) ⟨zA σ 17 2, zsF_self.symm, by decide, fun j j0 j1 => absurd j0 (by omega)⟩
  obtain ⟨h, e, hi, hv⟩ := hI
  rw [e]
  unfold wpbJ7_fill_53178_17_2_5
  refine ⟨by omega, by decide, fun q => hQ h (fun j j0 j1 => hv j j0 (by omega)), fun q => ⟨by omega, ih _ _ ⟨zu h i v, zsA_F, by omega, fun j j0 j1 => ?_⟩ (by omega)⟩⟩
  by_cases e' : j = i
  · rw [e', pu_eq]
  · rw [pu_ne e']; exact hv j j0 (by omega)
theorem c_fill18_0 {σ : ZS} {v : Int} {Q : ZS → Prop} (hQ : ∀ h : Int → Int, (∀ j : Int, 0 ≤ j → j < 4096 → h j = v) → Q (zsF σ 18 0 h)) : wpJ7_fill_53178_18_0 v σ Q := by
  unfold wpJ7_fill_53178_18_0 wpJ7_fill_53178_18_0_5
  refine lfp1_ind (fun i _ => (4096 - i).toNat) (fun i τ => ∃ h : Int → Int, τ = zsF σ 18 0 h ∧ (0 ≤ i ∧ i ≤ 4096) ∧ ∀ j : Int, 0 ≤ j → j < i → h j = v) (fun K i τ hI ih => ?_) ⟨zA σ 18 0, zsF_self.symm, by decide, fun j j0 j1 => absurd j0 (by omega)⟩
  obtain ⟨h, e, hi, hv⟩ := hI
  rw [e]
  unfold wpbJ7_fill_53178_18_0_5
  refine ⟨by omega, by decide, fun q => hQ h (fun j j0 j1 => hv j j0 (by omega)), fun q => ⟨by omega, ih _ _ ⟨zu h i v, zsA_F, by omega, fun j j0 j1 => ?_⟩ (by omega)⟩⟩
  by_cases e' : j = i
  · rw [e', pu_eq]
  · rw [pu_ne e']; exact hv j j0 (by omega)
theorem c_fill18_1 {σ : ZS} {v : Int} {Q : ZS → Prop} (hQ : ∀ h : Int → Int, (∀ j : Int, 0 ≤ j → j < 8 → h j = v) → Q (zsF σ 18 1 h)) : wpJ7_fill_53178_18_1 v σ Q := by
  unfold wpJ7_fill_53178_18_1 wpJ7_fill_53178_18_1_5
  refine lfp1_ind (fun i _ => (8 - i).toNat) (fun i τ => ∃ h : Int → Int, τ = zsF σ 18 1 h ∧ (0 ≤ i ∧ i ≤ 8) ∧ ∀ j : Int, 0 ≤ j → j < i → h j = v) (fun K i τ hI ih => ?_) ⟨zA σ 18 1, zsF_self.symm, by decide, fun j j0 j1 => absurd j0 (by omega)⟩
  obtain ⟨h, e, hi, hv⟩ := hI
  rw [e]
  unfold wpbJ7_fill_53178_18_1_5
  refine ⟨by omega, by decide, fun q => hQ h (fun j j0 j1 => hv j j0 (by omega)), fun q => ⟨by omega, ih _ _ ⟨zu h i v, zsA_F, by omega, fun j j0 j1 => ?_⟩ (by omega)⟩⟩
  by_cases e' : j = i
  · rw [e', pu_eq]
  · rw [pu_ne e']; exact hv j j0 (by omega)
theorem c_fill18_2 {σ : ZS} {v : Int} {Q : ZS → Prop} (hQ : ∀ h : Int → Int, (∀ j : Int, 0 ≤ j → j < 4 → h j = v) → Q (zsF σ 18 2 h)) : wpJ7_fill_53178_18_2 v σ Q := by
  unfold wpJ7_fill_53178_18_2 wpJ7_fill_53178_18_2_5
  refine lfp1_ind (fun i _ => (4 - i).toNat) (fun i τ => ∃ h : Int → Int, τ = zsF σ 18 2 h ∧ (0 ≤ i ∧ i ≤ 4) ∧ ∀ j : Int, 0 ≤ j → j < i → h j = v) (fun K i τ hI ih => ?_) ⟨zA σ 18 2, zsF_self.symm, by decide, fun j j0 j1 => absurd j0 (by omega)⟩
  obtain ⟨h, e, hi, hv⟩ := hI
  rw [e]
  unfold wpbJ7_fill_53178_18_2_5
  refine ⟨by omega, by decide, fun q => hQ h (fun j j0 j1 => hv j j0 (by omega)), fun q => ⟨by omega, ih _ _ ⟨zu h i v, zsA_F, by omega, fun j j0 j1 => ?_⟩ (by omega)⟩⟩
  by_cases e' : j = i
  · rw [e', pu_eq]
  · rw [pu_ne e']; exact hv j j0 (by omega)
theorem c_fillM {g : Int} {σ : ZS} {v : Int} {Q : ZS → Prop} (hg : 0 ≤ g ∧ g ≤ 2) (hQ : ∀ h : Int → Int, (∀ j : Int, 0 ≤ j → j < 400 → h j = v) → Q (zsF σ g 6 h)) : wpJ7_fill_53178_M_6 g v σ Q := by
  unfold wpJ7_fill_53178_M_6 wpJ7_fill_53178_M_6_5
  refine ⟨hg, lfp1_ind (fun i _ => (400 - i).toNat) (fun i τ => ∃ h : Int → Int, τ = zsF σ g 6 h ∧ (0 ≤ i ∧ i ≤ 400) ∧ ∀ j : Int, 0 ≤ j → j < i → h j = v) (fun K i τ hI ih => ?_) ⟨zA σ g 6, zsF_self.symm, by decide, fun j j0 j1 => absurd j0 (by omega)⟩⟩
  obtain ⟨h, e, hi, hv⟩ := hI
  rw [e]
  unfold wpbJ7_fill_53178_M_6_5
  refine ⟨by omega, by decide, fun q => hQ h (fun j j0 j1 => hv j j0 (by omega)), fun q => ⟨by omega, by omega, ih _ _ ⟨zu h i v, zsA_F, by omega, fun j j0 j1 => ?_⟩ (by omega)⟩⟩
  by_cases e' : j = i
  · rw [e', pu_eq]
  · rw [pu_ne e']; exact hv j j0 (by omega)
/-! C: jumps are sized -/
def LZ (σ : ZS) : Prop := LY σ ∧ DS σ (zI σ 13 7) ∧ UR σ (zI σ 13 7) ∧ zI σ 15 5 < 0
theorem LY.s6 {σ : ZS} {i w : Int} (h : LY σ) (hw : 0 ≤ w ∧ w ≤ 20000) : LY (zsA σ 13 6 i w) := by
  obtain ⟨a1, a2, ⟨⟨d1, d2, d3⟩, d4⟩, a4, a5, a6, a7, a8, a9⟩ := h
  refine ⟨a1, a2, ⟨⟨d1, d2, fun j j0 j1 => ?_⟩, d4⟩, a4, a5, a6, a7, a8, a9⟩
  show 0 ≤ zu (zA σ 13 6) i w j ∧ zu (zA σ 13 6) i w j ≤ 20000
  by_cases e : j = i
  · rw [e, pu_eq]; exact hw
  · rw [pu_ne e]; exact d3 j j0 j1
theorem LZ.s6 {σ : ZS} {i w : Int} (h : LZ σ) (hw : 0 ≤ w ∧ w ≤ 20000) : LZ (zsA σ 13 6 i w) := ⟨h.1.s6 hw, h.2.1, h.2.2.1, h.2.2.2⟩
theorem LY.f3 {σ : ZS} {k : Int → Int} (h : LY σ) (hk : ∀ s : Int, 0 ≤ s → s < 60 → 0 ≤ k s ∧ k s ≤ 20000) : LY (zsF σ 15 3 k) := by
  obtain ⟨a1, a2, a3, a4, a5, a6, a7, a8, a9⟩ := h
  exact ⟨a1, a2, a3.k rfl (ob_f (by decide)), a4, a5, a6, fun s s0 s1 => ⟨(a7 s s0 s1).1, hk s s0 s1⟩, a8, a9⟩
theorem LZ.f3 {σ : ZS} {k : Int → Int} (h : LZ σ) (hk : ∀ s : Int, 0 ≤ s → s < 60 → 0 ≤ k s ∧ k s ≤ 20000) : LZ (zsF σ 15 3 k) := ⟨h.1.f3 hk, h.2.1, h.2.2.1, h.2.2.2⟩
theorem LY.n4 {σ : ZS} {i w : Int} (h : LY σ) (hw : 0 ≤ w ∧ w ≤ 20000) : LY (zsA σ 11 4 i w) := by
  obtain ⟨a1, a2, a3, a4, a5, a6, a7, a8, a9⟩ := h
  refine ⟨fun n n0 n1 => ?_, a2, a3.k rfl (ob_a (by decide)), a4, a5, a6, a7, a8, a9⟩
  obtain ⟨x0, x1, x2, x3, x4⟩ := a1 n n0 n1
  refine ⟨x0, x1, x2, x3, ?_⟩
  show 0 ≤ zu (zA σ 11 4) i w n ∧ zu (zA σ 11 4) i w n ≤ 20000
  by_cases e : n = i
  · rw [e, pu_eq]; exact hw
  · rw [pu_ne e]; exact x4
theorem LZ.n4 {σ : ZS} {i w : Int} (h : LZ σ) (hw : 0 ≤ w ∧ w ≤ 20000) : LZ (zsA σ 11 4 i w) := ⟨h.1.n4 hw, h.2.1, h.2.2.1, h.2.2.2⟩
theorem LY.v3 {σ : ZS} {i : Int} (h : LY σ) (hi : zA σ 13 0 i = 9) : LY (zsA σ 13 1 i 3) := by
  obtain ⟨a1, a2, ⟨⟨d1, d2, d3⟩, d4⟩, a4, a5, a6, a7, a8, a9⟩ := h
  refine ⟨a1, a2, ⟨⟨d1, fun j j0 j1 => ?_, d3⟩, d4⟩, a4, a5, a6, a7, a8, a9⟩
  obtain ⟨i1, i2, i3, i4, i5, i6, i7, i8, i9, i10⟩ := d2 j j0 j1
  show ITw (zI σ 11 5) (zA σ 13 0 j) (zu (zA σ 13 1) i 3 j) (zA σ 13 2 j) (zA σ 13 3 j) (zA σ 13 4 j)
  by_cases e : j = i
  · rw [e, pu_eq]
    rw [e] at i1 i3 i4 i5 i6 i7
    exact ⟨i1, by decide, i3, i4, i5, i6, i7, fun q => absurd q (by omega), fun _ => by decide, fun q => absurd q (by omega)⟩
  · rw [pu_ne e]; exact ⟨i1, i2, i3, i4, i5, i6, i7, i8, i9, i10⟩
theorem LZ.v3 {σ : ZS} {i : Int} (h : LZ σ) (hi : zA σ 13 0 i = 9) : LZ (zsA σ 13 1 i 3) := ⟨h.1.v3 hi, h.2.1, h.2.2.1, h.2.2.2⟩
theorem c_bytesOf {σ : ZS} {i : Int} {Q : Int → ZS → Prop} (h : LY σ) (hi : 0 ≤ i ∧ i < zI σ 13 7) (hQ : ∀ x : Int, (0 ≤ x ∧ x ≤ 64) → Q x σ) : wpX0_bytesOf i σ Q := by
  have hz := h.sz
  obtain ⟨i1, i2, i3, i4, i5, i6, i7, i8, i9, i10⟩ := h.it hi.1 hi.2
  unfold wpX0_bytesOf wpX0_bytesOf_58 wpX0_bytesOf_65
  exact ⟨by omega, by omega, fun _ => hQ _ (by decide), fun _ => ⟨fun e => ⟨by omega, hQ _ (by have := i8 e; omega)⟩, fun _ => ⟨fun _ => hQ _ (by decide), fun _ => ⟨fun _ => hQ _ (by decide), fun _ => ⟨fun _ => hQ _ (by decide), fun _ => ⟨fun e => ⟨by omega, hQ _ (by have := i9 e; omega)⟩, fun _ => ⟨fun _ => hQ _ (by decide), fun _ => ⟨fun _ => hQ _ (by decide), fun _ => ⟨fun _ => hQ _ (by decide), fun _ => hQ _ (by decide)⟩⟩⟩⟩⟩⟩⟩⟩⟩
theorem c_measure {σ : ZS} {Q : ZS → Prop} (h : LZ σ) (hQ : ∀ τ : ZS, LZ τ → kp [11, 13, 15] σ τ → Q τ) : wpX2_measure σ Q := by
  unfold wpX2_measure wpX2_measure_10
  refine c_fill15_3 (fun k hk => ?_)
  refine lfp1_ind (fun v _ => (248 - v).toNat) (fun v τ => LZ τ ∧ kp [11, 13, 15] σ τ ∧ (∀ s : Int, 0 ≤ s → s < 60 → 0 ≤ zA τ 15 3 s ∧ zA τ 15 3 s ≤ 64 * v) ∧ (0 ≤ v ∧ v ≤ zI τ 13 7)) (fun K v τ hI ih => ?_) ⟨h.f3 (fun s s0 s1 => by rw [hk s s0 s1]; decide), kp.f (by decide), fun s s0 s1 => ?_, by decide, h.1.sz.1⟩
  · obtain ⟨lz, kk, sz, v0, v1⟩ := hI
    have hz := lz.1.sz
    have a4 := lz.1.2.2.2.1
    have hN := lz.1.2.1.1
    unfold wpbX2_measure_10 wpX2_measure_106
    refine ⟨by omega, by omega, fun _ => hQ τ lz kk, fun lt => ?_⟩
    have hs := lz.2.1 v v0 (by omega)
    refine ⟨by omega, by omega, fun neg => ih _ _ ⟨lz, kk, fun s s0 s1 => by have := sz s s0 s1; omega, by omega, by omega⟩ (by omega), fun nn => ⟨by omega, ?_⟩⟩
    have hs3 := sz (zA τ 13 5 v) (by omega) (by omega)
    have lz1 : LZ (zsA τ 13 6 v (zA τ 15 3 (zA τ 13 5 v))) := lz.s6 (by omega)
    refine c_bytesOf lz1.1 ⟨v0, show v < zI τ 13 7 by omega⟩ (fun x hx => ?_)
    obtain ⟨i1, i2, i3, i4, i5, i6, i7, i8, i9, i10⟩ := lz.1.it v0 (show v < zI τ 13 7 by omega)
    have szn : ∀ s : Int, 0 ≤ s → s < 60 → 0 ≤ zu (zA τ 15 3) (zA τ 13 5 v) (zA τ 15 3 (zA τ 13 5 v) + x) s ∧ zu (zA τ 15 3) (zA τ 13 5 v) (zA τ 15 3 (zA τ 13 5 v) + x) s ≤ 64 * (v + 1) := by
      intro s s0 s1
      by_cases e : s = zA τ 13 5 v
      · rw [e, pu_eq]; omega
      · rw [pu_ne e]; have := sz s s0 s1; omega
    have lz2 : LZ (zsA (zsA τ 13 6 v (zA τ 15 3 (zA τ 13 5 v))) 15 3 (zA τ 13 5 v) (zA τ 15 3 (zA τ 13 5 v) + x)) := lz1.f3 (fun s s0 s1 => by
      have := szn s s0 s1
      show 0 ≤ zu (zA τ 15 3) (zA τ 13 5 v) (zA τ 15 3 (zA τ 13 5 v) + x) s ∧ zu (zA τ 15 3) (zA τ 13 5 v) (zA τ 15 3 (zA τ 13 5 v) + x) s ≤ 20000
      omega)
    have k2 : kp [11, 13, 15] σ (zsA (zsA τ 13 6 v (zA τ 15 3 (zA τ 13 5 v))) 15 3 (zA τ 13 5 v) (zA τ 15 3 (zA τ 13 5 v) + x)) := (kk.ta (by decide)).ta (by decide)
    have hsz : 0 ≤ v + 1 ∧ v + 1 ≤ zI τ 13 7 := by omega
    refine ⟨?_, fun _ => ih _ _ ⟨lz2, k2, szn, hsz⟩ (by omega), fun e1 => ⟨?_, ih _ _ ⟨lz2.n4 ?_, k2.ta (by decide), szn, hsz⟩ (by omega)⟩⟩
    · show -2147483648 ≤ zA τ 13 0 v ∧ zA τ 13 0 v ≤ 2147483647
      omega
    · have e1' : zA τ 13 0 v = 1 := e1
      have := i6 (by omega) (by omega) (by omega)
      show 0 ≤ zA τ 13 2 v ∧ zA τ 13 2 v < 240
      omega
    · show 0 ≤ zu (zA τ 13 6) v (zA τ 15 3 (zA τ 13 5 v)) v ∧ zu (zA τ 13 6) v (zA τ 15 3 (zA τ 13 5 v)) v ≤ 20000
      rw [pu_eq]; omega
  · show 0 ≤ k s ∧ k s ≤ 64 * 0
    rw [hk s s0 s1]; decide
theorem c_isExtern {σ : ZS} {i : Int} {Q : Int → ZS → Prop} (h : LY σ) (hi : 0 ≤ i ∧ i < zI σ 13 7) (hn : 0 ≤ zA σ 13 2 i) (hQ : ∀ x : Int, (0 ≤ x ∧ x ≤ 1) → Q x σ) : wpX2_isExtern i σ Q := by
  have hz := h.sz
  have hN := h.2.1.1
  obtain ⟨i1, i2, i3, i4, i5, i6, i7, i8, i9, i10⟩ := h.it hi.1 hi.2
  have hr := (h.1 (zA σ 13 2 i) hn (by omega)).2.1
  unfold wpX2_isExtern wpX2_isExtern_26
  exact ⟨by omega, by omega, by omega, fun _ => ⟨by decide, hQ _ (by decide)⟩, fun _ => ⟨by decide, hQ _ (by decide)⟩⟩
theorem c_distance {σ : ZS} {i : Int} {Q : Int → ZS → Prop} (h : LY σ) (hi : 0 ≤ i ∧ i < zI σ 13 7) (hn : 0 ≤ zA σ 13 2 i) (hQ : ∀ x : Int, (-30000 ≤ x ∧ x ≤ 30000) → Q x σ) : wpX2_distance i σ Q := by
  have hz := h.sz
  have hN := h.2.1.1
  obtain ⟨i1, i2, i3, i4, i5, i6, i7, i8, i9, i10⟩ := h.it hi.1 hi.2
  have ho := (h.1 (zA σ 13 2 i) hn (by omega)).2.2.2.2
  have h6 := h.2.2.1.1.2.2 i hi.1 hi.2
  unfold wpX2_distance
  exact ⟨by omega, by omega, c_bytesOf h hi (fun x hx => hQ _ (by omega))⟩
theorem c_growJumps {σ : ZS} {Q : Int → ZS → Prop} (h : LZ σ) (hQ : ∀ (x : Int) (τ : ZS), (0 ≤ x ∧ x ≤ 1) → LZ τ → kp [11, 13, 15] σ τ → Q x τ) : wpX2_growJumps σ Q := by
  unfold wpX2_growJumps wpX2_growJumps_4
  refine lfp2_ind (fun _ v _ => (248 - v).toNat) (fun f v τ => LZ τ ∧ kp [11, 13, 15] σ τ ∧ (0 ≤ f ∧ f ≤ 1) ∧ (0 ≤ v ∧ v ≤ zI τ 13 7)) (fun K f v τ hI ih => ?_) ⟨h, kp.rf, by decide, by decide, h.1.sz.1⟩
  obtain ⟨lz, kk, hf, v0, v1⟩ := hI
  have hz := lz.1.sz
  unfold wpbX2_growJumps_4 wpX2_growJumps_73 wpX2_growJumps_61
  refine ⟨by omega, by omega, fun _ => ⟨hf, hQ f τ hf lz kk⟩, fun lt => ?_⟩
  obtain ⟨i1, i2, i3, i4, i5, i6, i7, i8, i9, i10⟩ := lz.1.it v0 (show v < zI τ 13 7 by omega)
  have on : K f (v + 1) τ := ih _ _ _ ⟨lz, kk, hf, by omega, by omega⟩ (by omega)
  have gr : zA τ 13 0 v = 9 → (0 ≤ v ∧ v < 248) ∧ K 1 (v + 1) (zsA τ 13 1 v 3) := fun e => ⟨by omega, ih _ _ _ ⟨lz.v3 e, kk.ta (by decide), by decide, by omega, show v + 1 ≤ zI τ 13 7 by omega⟩ (by omega)⟩
  refine ⟨by omega, by omega, fun _ => on, fun e9 => ⟨by omega, fun _ => on, fun e2 => ?_⟩⟩
  have hn := i6 (by omega) (by omega) (by omega)
  exact c_isExtern lz.1 ⟨v0, by omega⟩ hn (fun x hx => ⟨by omega, fun _ => gr e9, fun _ => c_distance lz.1 ⟨v0, by omega⟩ hn (fun y hy => c_isShort (by omega) (fun _ _ => ⟨by decide, fun _ => on, fun q => absurd q (by decide)⟩) (fun _ => ⟨by decide, fun q => absurd rfl q, fun _ => gr e9⟩))⟩)
theorem c_sizeJumps {σ : ZS} {Q : Int → ZS → Prop} (h : LZ σ) (hQ : ∀ (x : Int) (τ : ZS), LZ τ → kp [11, 13, 15] σ τ → x = psum (zA τ 15 3) (zI τ 15 4).toNat → (0 ≤ x ∧ x ≤ 1200000) → Q x τ) : wpX2_sizeJumps σ Q := by
  have f33 : ∀ τ : ZS, LZ τ → kp [11, 13, 15] σ τ → wpX2_sizeJumps_33 τ Q := by
    intro τ lz kk
    have a4 := lz.1.2.2.2.1
    have a7 := lz.1.2.2.2.2.2.2.1
    unfold wpX2_sizeJumps_33 wpX2_sizeJumps_37
    refine lfp2_ind (fun _ v _ => (60 - v).toNat) (fun b v υ => υ = τ ∧ b = psum (zA τ 15 3) v.toNat ∧ (0 ≤ b ∧ b ≤ 20000 * v) ∧ (0 ≤ v ∧ v ≤ zI τ 15 4)) (fun K b v υ hI ih => ?_) ⟨rfl, rfl, by decide, by decide, a4.1⟩
    obtain ⟨e, hb, hb2, v0, v1⟩ := hI
    rw [e]
    unfold wpbX2_sizeJumps_37
    refine ⟨by omega, by omega, fun q => hQ b τ lz kk (by rw [show zI τ 15 4 = v by omega]; exact hb) (by omega), fun q => ⟨by omega, ih _ _ _ ⟨rfl, ?_, ?_, by omega, by omega⟩ (by omega)⟩⟩
    · rw [show (v + 1).toNat = v.toNat + 1 by omega]
      show b + zA τ 15 3 v = psum (zA τ 15 3) v.toNat + zA τ 15 3 ((v.toNat : Nat) : Int)
      rw [← hb, show ((v.toNat : Nat) : Int) = v by omega]
    · have := (a7 v v0 (by omega)).2
      omega
  unfold wpX2_sizeJumps wpX2_sizeJumps_2
  refine lfp1_ind (fun v _ => (249 - v).toNat) (fun v τ => LZ τ ∧ kp [11, 13, 15] σ τ ∧ (0 ≤ v ∧ v ≤ 249)) (fun K v τ hI ih => ?_) ⟨h, kp.rf, by decide⟩
  obtain ⟨lz, kk, hv⟩ := hI
  have hz := lz.1.sz
  unfold wpbX2_sizeJumps_2
  exact ⟨by omega, by omega, fun _ => f33 τ lz kk, fun q => c_measure lz (fun υ uz uk => c_growJumps uz (fun x ω hx wz wk => ⟨by omega, fun _ => ih _ _ ⟨wz, (kk.tr uk).tr wk, by omega⟩ (by omega), fun _ => f33 ω wz ((kk.tr uk).tr wk)⟩))⟩
theorem c_firstTooFar {σ : ZS} {Q : Int → ZS → Prop} (h : LZ σ) (hQ : ∀ x : Int, (-1 ≤ x ∧ x ≤ 480) → Q x σ) : wpX2_firstTooFar σ Q := by
  have hz := h.1.sz
  unfold wpX2_firstTooFar wpX2_firstTooFar_2
  refine lfp1_ind (fun v _ => (248 - v).toNat) (fun v τ => τ = σ ∧ (0 ≤ v ∧ v ≤ zI σ 13 7)) (fun K v τ hI ih => ?_) ⟨rfl, by decide, hz.1⟩
  obtain ⟨e, v0, v1⟩ := hI
  rw [e]
  unfold wpbX2_firstTooFar_2 wpX2_firstTooFar_48
  refine ⟨by omega, by omega, fun _ => hQ _ (by decide), fun lt => ?_⟩
  obtain ⟨i1, i2, i3, i4, i5, i6, i7, i8, i9, i10⟩ := h.1.it v0 (show v < zI σ 13 7 by omega)
  have on : K (v + 1) σ := ih _ _ ⟨rfl, by omega, by omega⟩ (by omega)
  refine ⟨by omega, by omega, fun _ => on, fun e10 => ?_⟩
  have hn := i6 (by omega) (by omega) (by omega)
  exact c_distance h.1 ⟨v0, by omega⟩ hn (fun y hy => c_isShort (by omega) (fun _ _ => ⟨by decide, fun _ => on, fun q => absurd q (by decide)⟩) (fun _ => ⟨by decide, fun q => absurd rfl q, fun _ => hQ _ i5⟩))
