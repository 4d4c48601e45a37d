/-! C: the class's side: objects and frames -/
abbrev OB : Type := (Nat → Int) × (Nat → Int → Int)
def ob (σ : ZS) (g : Int) : OB := (σ.1 g, σ.2 g)
theorem ob_i {σ : ZS} {g g' v : Int} {f : Nat} (h : g' ≠ g) : ob (zsI σ g f v) g' = ob σ g' := by
  unfold ob zsI
  refine Prod.ext (funext fun f' => ?_) rfl
  exact if_neg h
theorem ob_f {σ : ZS} {g g' : Int} {f : Nat} {k : Int → Int} (h : g' ≠ g) : ob (zsF σ g f k) g' = ob σ g' := by
  unfold ob zsF
  refine Prod.ext rfl (funext fun f' => ?_)
  exact if_neg h
theorem ob_a {σ : ZS} {g g' i v : Int} {f : Nat} (h : g' ≠ g) : ob (zsA σ g f i v) g' = ob σ g' := ob_f h
theorem ob_I {σ τ : ZS} {g : Int} (h : ob τ g = ob σ g) (f : Nat) : zI τ g f = zI σ g f := congrFun (congrArg Prod.fst h) f
theorem ob_A {σ τ : ZS} {g : Int} (h : ob τ g = ob σ g) (f : Nat) : zA τ g f = zA σ g f := congrFun (congrArg Prod.snd h) f
/-- what a step of the class may change: objects -/
def kp (G : List Int) (σ τ : ZS) : Prop := ∀ g : Int, g ∉ G → ob τ g = ob σ g
theorem kp.rf {G : List Int} {σ : ZS} : kp G σ σ := fun _ _ => rfl
theorem kp.tr {G : List Int} {σ τ υ : ZS} (h : kp G σ τ) (k : kp G τ υ) : kp G σ υ := fun g hg => (k g hg).trans (h g hg)
theorem kp.up {G G' : List Int} {σ τ : ZS} (h : kp G σ τ) (hs : ∀ g ∈ G, g ∈ G') : kp G' σ τ := fun g hg => h g (fun q => hg (hs g q))
theorem kp.i {G : List Int} {σ : ZS} {g v : Int} {f : Nat} (hg : g ∈ G) : kp G σ (zsI σ g f v) := fun g' h => ob_i (fun e => h (e ▸ hg))
theorem kp.a {G : List Int} {σ : ZS} {g i v : Int} {f : Nat} (hg : g ∈ G) : kp G σ (zsA σ g f i v) := fun g' h => ob_a (fun e => h (e ▸ hg))
theorem kp.ti {G : List Int} {σ τ : ZS} {g v : Int} {f : Nat} (h : kp G σ τ) (hg : g ∈ G) : kp G σ (zsI τ g f v) := h.tr (kp.i hg)
theorem kp.ta {G : List Int} {σ τ : ZS} {g i v : Int} {f : Nat} (h : kp G σ τ) (hg : g ∈ G) : kp G σ (zsA τ g f i v) := h.tr (kp.a hg)
theorem kp.I {G : List Int} {σ τ : ZS} {g : Int} (h : kp G σ τ) (hg : g ∉ G) (f : Nat) : zI τ g f = zI σ g f := ob_I (h g hg) f
theorem kp.A {G : List Int} {σ τ : ZS} {g : Int} (h : kp G σ τ) (hg : g ∉ G) (f : Nat) : zA τ g f = zA σ g f := ob_A (h g hg) f
theorem zI_s {σ : ZS} {g v : Int} {f : Nat} : zI (zsI σ g f v) g f = v := by
  show (if g = g then (if f = f then v else σ.1 g f) else σ.1 g f) = v
  rw [if_pos rfl, if_pos rfl]
theorem zI_f {σ : ZS} {g v : Int} {f f' : Nat} (h : f' ≠ f) : zI (zsI σ g f v) g f' = zI σ g f' := by
  show (if g = g then (if f' = f then v else σ.1 g f') else σ.1 g f') = _
  rw [if_pos rfl, if_neg h]; rfl
theorem zI_g {σ : ZS} {g g' v : Int} {f f' : Nat} (h : g' ≠ g) : zI (zsI σ g f v) g' f' = zI σ g' f' := if_neg h
theorem zA_s {σ : ZS} {g i v : Int} {f : Nat} : zA (zsA σ g f i v) g f = zu (zA σ g f) i v := by
  show (if g = g then (if f = f then zu (zA σ g f) i v else σ.2 g f) else σ.2 g f) = _
  rw [if_pos rfl, if_pos rfl]
theorem zA_f {σ : ZS} {g i v : Int} {f f' : Nat} (h : f' ≠ f) : zA (zsA σ g f i v) g f' = zA σ g f' := by
  show (if g = g then (if f' = f then zu (zA σ g f) i v else σ.2 g f') else σ.2 g f') = _
  rw [if_pos rfl, if_neg h]; rfl
theorem zA_g {σ : ZS} {g g' i v : Int} {f f' : Nat} (h : g' ≠ g) : zA (zsA σ g f i v) g' f' = zA σ g' f' := if_neg h
/-! the text -/
def TX (σ : ZS) : Prop := (0 ≤ zI σ 10 1 ∧ zI σ 10 1 ≤ 480) ∧ (∀ i : Int, 0 ≤ i → i < 480 → 0 ≤ zA σ 10 0 i ∧ zA σ 10 0 i ≤ 126) ∧ (∀ i : Int, 0 ≤ i → i < zI σ 10 1 → 32 ≤ zA σ 10 0 i)
theorem TX.k {σ τ : ZS} (h : TX σ) (e : ob τ 10 = ob σ 10) : TX τ := by
  have e1 := ob_I e; have e2 := ob_A e
  unfold TX; simp only [e1, e2]; exact h
/-! the names -/
def NR (σ : ZS) : Prop := ∀ n : Int, 0 ≤ n → n < 240 → (0 ≤ zA σ 11 0 n ∧ zA σ 11 0 n ≤ 4398046511103) ∧ (0 ≤ zA σ 11 1 n ∧ zA σ 11 1 n ≤ 3) ∧ (-1 ≤ zA σ 11 2 n ∧ zA σ 11 2 n ≤ 59) ∧ (0 ≤ zA σ 11 3 n ∧ zA σ 11 3 n ≤ 16) ∧ (0 ≤ zA σ 11 4 n ∧ zA σ 11 4 n ≤ 20000)
def NS (σ : ZS) : Prop := (0 ≤ zI σ 11 5 ∧ zI σ 11 5 ≤ 240) ∧ (-1 ≤ zI σ 11 6 ∧ zI σ 11 6 ≤ 480) ∧ (25 ≤ zI σ 11 5 → 0 ≤ zI σ 11 6)
def NF (σ : ZS) : Prop := ∀ n : Int, 0 ≤ n → n < zI σ 11 5 → zA σ 11 1 n = 0 ∧ zA σ 11 2 n = -1
theorem NR.k {σ τ : ZS} (h : NR σ) (e : ob τ 11 = ob σ 11) : NR τ := by
  have e2 := ob_A e
  unfold NR; simp only [e2]; exact h
theorem NS.k {σ τ : ZS} (h : NS σ) (e : ob τ 11 = ob σ 11) : NS τ := by
  have e1 := ob_I e
  unfold NS; simp only [e1]; exact h
theorem NF.k {σ τ : ZS} (h : NF σ) (e : ob τ 11 = ob σ 11) : NF τ := by
  have e1 := ob_I e; have e2 := ob_A e
  unfold NF; simp only [e1, e2]; exact h
/-! the tokens -/
def TK (N t v p : Int) : Prop := (0 ≤ t ∧ t ≤ 126) ∧ (0 ≤ v ∧ v ≤ 65536) ∧ (0 ≤ p ∧ p ≤ 480) ∧ (t = 3 → v < N)
def TI (σ : ZS) : Prop := (0 ≤ zI σ 12 3 ∧ zI σ 12 3 ≤ 481) ∧ (∀ i : Int, 0 ≤ i → i < zI σ 12 3 → TK (zI σ 11 5) (zA σ 12 0 i) (zA σ 12 1 i) (zA σ 12 2 i))
theorem TI.k {σ τ : ZS} (h : TI σ) (e : ob τ 11 = ob σ 11) (e' : ob τ 12 = ob σ 12) : TI τ := by
  have e1 := ob_I e; have e3 := ob_I e'; have e4 := ob_A e'
  unfold TI; simp only [e1, e3, e4]; exact h
/-! C: reading tokens -/
theorem c_isLetter {a0 : Int} {σ : ZS} {Q : Int → ZS → Prop} (h : -2147483648 ≤ a0 ∧ a0 ≤ 2147483647) (h1 : cL a0 → Q 1 σ) (h0 : ¬ cL a0 → Q 0 σ) : wpX9_isLetter a0 σ Q := by
  unfold wpX9_isLetter wpX9_isLetter_16 wpX9_isLetter_17
  exact ⟨h, fun a => ⟨by decide, h0 (by unfold cL; omega)⟩, fun a => ⟨fun b => ⟨by decide, h0 (by unfold cL; omega)⟩, fun b => ⟨by decide, h1 (by unfold cL; omega)⟩⟩⟩
theorem c_isDigit {a0 : Int} {σ : ZS} {Q : Int → ZS → Prop} (h : -2147483648 ≤ a0 ∧ a0 ≤ 2147483647) (h1 : cD a0 → Q 1 σ) (h0 : ¬ cD a0 → Q 0 σ) : wpX9_isDigit a0 σ Q := by
  unfold wpX9_isDigit wpX9_isDigit_16 wpX9_isDigit_17
  exact ⟨h, fun a => ⟨by decide, h0 (by unfold cD; omega)⟩, fun a => ⟨fun b => ⟨by decide, h0 (by unfold cD; omega)⟩, fun b => ⟨by decide, h1 (by unfold cD; omega)⟩⟩⟩
def pkv (h : Int → Int) (s : Int) : Nat → Int
  | 0 => 0
  | n + 1 => pkv h s n * 128 + h (s + n)
theorem pkv_bd {h : Int → Int} {s : Int} : ∀ n : Nat, (∀ j : Int, s ≤ j → j < s + n → 0 ≤ h j ∧ h j < 128) → 0 ≤ pkv h s n ∧ pkv h s n < (128 : Int) ^ n
  | 0, _ => ⟨Int.le_refl 0, (by decide : (0 : Int) < 128 ^ 0)⟩
  | n + 1, hh => by
    have ih := pkv_bd n (fun j h1 h2 => hh j h1 (by omega))
    have hc := hh (s + n) (by omega) (by omega)
    show 0 ≤ pkv h s n * 128 + h (s + n) ∧ pkv h s n * 128 + h (s + n) < (128 : Int) ^ (n + 1)
    rw [Int.pow_succ]
    omega
theorem pkv_6 {h : Int → Int} {s : Int} {n : Nat} (hn : n ≤ 6) (hh : ∀ j : Int, s ≤ j → j < s + n → 0 ≤ h j ∧ h j < 128) : 0 ≤ pkv h s n ∧ pkv h s n ≤ 4398046511103 := by
  have a := pkv_bd n hh
  have b : ∀ k : Nat, k ≤ 6 → (128 : Int) ^ k ≤ 4398046511104 := by decide
  have c := b n hn
  omega
theorem zby_bd (k : Nat) (i : Int) : -2147483648 ≤ zby k i ∧ zby k i ≤ 2147483647 := by
  unfold zby
  have h1 := Int32.le_toInt ((zByt.getD k []).getD i.toNat 0)
  have h2 := Int32.toInt_lt ((zByt.getD k []).getD i.toNat 0)
  omega
theorem c_len0 {σ : ZS} {Q : Int → ZS → Prop} (h : Q 8 σ) : wpJ0_length_8abf5_S0 σ Q := by
  unfold wpJ0_length_8abf5_S0 wpJ0_coder_7d493_S0 wpJ0_coder_7d493_S0_14
  exact ⟨fun a => absurd a (by decide), fun _ => ⟨rfl, rfl, h⟩⟩
theorem c_lat0 {σ : ZS} {Q : Int → ZS → Prop} (h : Q 1 σ) : wpJ0_isLatin1_aae02_S0 σ Q := by
  unfold wpJ0_isLatin1_aae02_S0 wpJ0_isLatin1_aae02_S0_17 wpJ0_isLatin1_aae02_S0_18
  exact ⟨fun a => absurd a (by decide), fun _ => ⟨fun a => absurd rfl a, fun _ => ⟨by decide, h⟩⟩⟩
theorem c_len1 {σ : ZS} {Q : Int → ZS → Prop} (h : Q 23 σ) : wpJ0_length_8abf5_S1 σ Q := by
  unfold wpJ0_length_8abf5_S1 wpJ0_coder_7d493_S1 wpJ0_coder_7d493_S1_14
  exact ⟨fun a => absurd a (by decide), fun _ => ⟨rfl, rfl, h⟩⟩
theorem c_lat1 {σ : ZS} {Q : Int → ZS → Prop} (h : Q 1 σ) : wpJ0_isLatin1_aae02_S1 σ Q := by
  unfold wpJ0_isLatin1_aae02_S1 wpJ0_isLatin1_aae02_S1_17 wpJ0_isLatin1_aae02_S1_18
  exact ⟨fun a => absurd a (by decide), fun _ => ⟨fun a => absurd rfl a, fun _ => ⟨by decide, h⟩⟩⟩
theorem c_len2 {σ : ZS} {Q : Int → ZS → Prop} (h : Q 11 σ) : wpJ0_length_8abf5_S2 σ Q := by
  unfold wpJ0_length_8abf5_S2 wpJ0_coder_7d493_S2 wpJ0_coder_7d493_S2_14
  exact ⟨fun a => absurd a (by decide), fun _ => ⟨rfl, rfl, h⟩⟩
theorem c_lat2 {σ : ZS} {Q : Int → ZS → Prop} (h : Q 1 σ) : wpJ0_isLatin1_aae02_S2 σ Q := by
  unfold wpJ0_isLatin1_aae02_S2 wpJ0_isLatin1_aae02_S2_17 wpJ0_isLatin1_aae02_S2_18
  exact ⟨fun a => absurd a (by decide), fun _ => ⟨fun a => absurd rfl a, fun _ => ⟨by decide, h⟩⟩⟩
theorem c_len3 {σ : ZS} {Q : Int → ZS → Prop} (h : Q 155 σ) : wpJ0_length_8abf5_S3 σ Q := by
  unfold wpJ0_length_8abf5_S3 wpJ0_coder_7d493_S3 wpJ0_coder_7d493_S3_14
  exact ⟨fun a => absurd a (by decide), fun _ => ⟨rfl, rfl, h⟩⟩
theorem c_lat3 {σ : ZS} {Q : Int → ZS → Prop} (h : Q 1 σ) : wpJ0_isLatin1_aae02_S3 σ Q := by
  unfold wpJ0_isLatin1_aae02_S3 wpJ0_isLatin1_aae02_S3_17 wpJ0_isLatin1_aae02_S3_18
  exact ⟨fun a => absurd a (by decide), fun _ => ⟨fun a => absurd rfl a, fun _ => ⟨by decide, h⟩⟩⟩
theorem c_chr1 {σ : ZS} {i : Int} {Q : Int → ZS → Prop} (hi : 0 ≤ i ∧ i < 23) (h : Q (zby 1 i % 256 % 65536) σ) : wpJ0_charAt_5068e_S1 i σ Q := by
  unfold wpJ0_charAt_5068e_S1 wpJ1_charAt_3b067_S1 wpJ0_checkIndex_df160 wpJ3_checkIndex_8e157
  exact c_lat1 ⟨by decide, fun a => absurd a (by decide), fun _ => ⟨by omega, fun a => absurd a (by omega), fun _ => ⟨by decide, fun _ => ⟨hi, by omega, h⟩, fun a => absurd hi.2 a⟩⟩⟩
theorem c_chr2 {σ : ZS} {i : Int} {Q : Int → ZS → Prop} (hi : 0 ≤ i ∧ i < 11) (h : Q (zby 2 i % 256 % 65536) σ) : wpJ0_charAt_5068e_S2 i σ Q := by
  unfold wpJ0_charAt_5068e_S2 wpJ1_charAt_3b067_S2 wpJ0_checkIndex_df160 wpJ3_checkIndex_8e157
  exact c_lat2 ⟨by decide, fun a => absurd a (by decide), fun _ => ⟨by omega, fun a => absurd a (by omega), fun _ => ⟨by decide, fun _ => ⟨hi, by omega, h⟩, fun a => absurd hi.2 a⟩⟩⟩
theorem c_chr3 {σ : ZS} {i : Int} {Q : Int → ZS → Prop} (hi : 0 ≤ i ∧ i < 155) (h : Q (zby 3 i % 256 % 65536) σ) : wpJ0_charAt_5068e_S3 i σ Q := by
  unfold wpJ0_charAt_5068e_S3 wpJ1_charAt_3b067_S3 wpJ0_checkIndex_df160 wpJ3_checkIndex_8e157
  exact c_lat3 ⟨by decide, fun a => absurd a (by decide), fun _ => ⟨by omega, fun a => absurd a (by omega), fun _ => ⟨by decide, fun _ => ⟨hi, by omega, h⟩, fun a => absurd hi.2 a⟩⟩⟩
/-- what stands while tokens are read -/
def RD (σ : ZS) : Prop := NS σ ∧ NR σ ∧ NF σ ∧ TI σ
theorem TI.mo {σ τ : ZS} (h : TI σ) (e : ob τ 12 = ob σ 12) (hn : zI σ 11 5 ≤ zI τ 11 5) : TI τ := by
  have e3 := ob_I e; have e4 := ob_A e
  unfold TI; simp only [e3, e4]
  refine ⟨h.1, fun i i0 i1 => ?_⟩
  obtain ⟨a, b, c, d⟩ := h.2 i i0 i1
  exact ⟨a, b, c, fun q => by have := d q; omega⟩
/-! C: the parser's small steps -/
def al (v : Int) : Prop := v = 1 ∨ v = 2 ∨ v = 4 ∨ v = 8 ∨ v = 16
def IT (N t v n p w : Int) : Prop := (0 ≤ t ∧ t ≤ 12) ∧ (0 ≤ v ∧ v ≤ 65536) ∧ (-1 ≤ n ∧ n < N) ∧ (-1 ≤ p ∧ p ≤ 480) ∧ (-1 ≤ w ∧ w ≤ 480) ∧ (t ≠ 4 → t ≠ 5 → t ≠ 6 → 0 ≤ n) ∧ (0 ≤ n → 0 ≤ p) ∧ (t = 5 → v ≤ 64) ∧ (t = 9 → v = 2) ∧ (t = 0 ∨ t = 10 ∨ t = 12 → (t = 0 → al v) ∧ (t = 10 → 0 ≤ w) ∧ (t = 12 → v = 0))
/-- the same, where jumps may have grown -/
def ITw (N t v n p w : Int) : Prop := (0 ≤ t ∧ t ≤ 12) ∧ (0 ≤ v ∧ v ≤ 65536) ∧ (-1 ≤ n ∧ n < N) ∧ (-1 ≤ p ∧ p ≤ 480) ∧ (-1 ≤ w ∧ w ≤ 480) ∧ (t ≠ 4 → t ≠ 5 → t ≠ 6 → 0 ≤ n) ∧ (0 ≤ n → 0 ≤ p) ∧ (t = 5 → v ≤ 64) ∧ (t = 9 → 2 ≤ v ∧ v ≤ 3) ∧ (t = 0 ∨ t = 10 ∨ t = 12 → (t = 0 → al v) ∧ (t = 10 → 0 ≤ w) ∧ (t = 12 → v = 0))
def DI (σ : ZS) : Prop := (0 ≤ zI σ 13 7 ∧ zI σ 13 7 ≤ 248) ∧ (∀ i : Int, 0 ≤ i → i < zI σ 13 7 → IT (zI σ 11 5) (zA σ 13 0 i) (zA σ 13 1 i) (zA σ 13 2 i) (zA σ 13 3 i) (zA σ 13 4 i)) ∧ (∀ i : Int, 0 ≤ i → i < zI σ 13 7 → 0 ≤ zA σ 13 6 i ∧ zA σ 13 6 i ≤ 20000)
def DIw (σ : ZS) : Prop := (0 ≤ zI σ 13 7 ∧ zI σ 13 7 ≤ 248) ∧ (∀ i : Int, 0 ≤ i → i < zI σ 13 7 → ITw (zI σ 11 5) (zA σ 13 0 i) (zA σ 13 1 i) (zA σ 13 2 i) (zA σ 13 3 i) (zA σ 13 4 i)) ∧ (∀ i : Int, 0 ≤ i → i < zI σ 13 7 → 0 ≤ zA σ 13 6 i ∧ zA σ 13 6 i ≤ 20000)
theorem DI.w {σ : ZS} (h : DI σ) : DIw σ := ⟨h.1, fun i i0 i1 => by
  obtain ⟨i1, i2, i3, i4, i5, i6, i7, i8, i9, i10⟩ := h.2.1 i i0 i1
  exact ⟨i1, i2, i3, i4, i5, i6, i7, i8, fun q => by have := i9 q; omega, i10⟩, h.2.2⟩
def DO (σ : ZS) : Prop := (∀ i : Int, 0 ≤ i → i < zI σ 13 7 → zA σ 13 0 i = 0 ∨ zA σ 13 0 i = 2 ∨ zA σ 13 0 i = 3 ∨ ∃ j : Int, 0 ≤ j ∧ j < i ∧ zA σ 13 0 j = 0) ∧ (zI σ 14 5 ≠ 0 → zI σ 13 7 = 248 ∨ ∃ j : Int, 0 ≤ j ∧ j < zI σ 13 7 ∧ zA σ 13 0 j = 0)
def PS (σ : ZS) : Prop := TI σ ∧ (1 ≤ zI σ 12 3 ∧ zA σ 12 0 (zI σ 12 3 - 1) = 0) ∧ (0 ≤ zI σ 14 4 ∧ zI σ 14 4 ≤ zI σ 12 3 - 1) ∧ (0 ≤ zI σ 14 5 ∧ zI σ 14 5 ≤ 1) ∧ DI σ ∧ DO σ ∧ (0 ≤ zI σ 11 5 ∧ zI σ 11 5 ≤ 240)
theorem DI.k {σ τ : ZS} (h : DI σ) (e : ob τ 11 = ob σ 11) (e' : ob τ 13 = ob σ 13) : DI τ := by
  have e1 := ob_I e; have e3 := ob_I e'; have e4 := ob_A e'
  unfold DI; simp only [e1, e3, e4]; exact h
theorem DO.k {σ τ : ZS} (h : DO σ) (e' : ob τ 13 = ob σ 13) (e5 : zI τ 14 5 = zI σ 14 5) : DO τ := by
  have e3 := ob_I e'; have e4 := ob_A e'
  unfold DO; simp only [e3, e4, e5]; exact h
theorem PS.mv {σ τ : ZS} (h : PS σ) (e11 : ob τ 11 = ob σ 11) (e12 : ob τ 12 = ob σ 12) (e13 : ob τ 13 = ob σ 13) (e5 : zI τ 14 5 = zI σ 14 5) (ha : 0 ≤ zI τ 14 4 ∧ zI τ 14 4 ≤ zI σ 12 3 - 1) : PS τ := by
  obtain ⟨h1, h2, h3, h4, h5, h6, h7⟩ := h
  refine ⟨h1.k e11 e12, ?_, ?_, ?_, h5.k e11 e13, h6.k e13 e5, by rw [ob_I e11 5]; exact h7⟩
  · rw [ob_I e12 3, ob_A e12 0]; exact h2
  · rw [ob_I e12 3]; exact ha
  · rw [e5]; exact h4
theorem PS.k {σ τ : ZS} {G : List Int} (h : PS σ) (k : kp G σ τ) (h11 : (11 : Int) ∉ G) (h12 : (12 : Int) ∉ G) (h13 : (13 : Int) ∉ G) (h14 : (14 : Int) ∉ G) : PS τ := h.mv (k 11 h11) (k 12 h12) (k 13 h13) (k.I h14 5) (by rw [k.I h14 4]; exact h.2.2.1)
theorem PS.tk {σ : ZS} (h : PS σ) : TK (zI σ 11 5) (zA σ 12 0 (zI σ 14 4)) (zA σ 12 1 (zI σ 14 4)) (zA σ 12 2 (zI σ 14 4)) := h.1.2 _ h.2.2.1.1 (by have := h.2.2.1; omega)
theorem PS.at {σ : ZS} (h : PS σ) : 0 ≤ zI σ 14 4 ∧ zI σ 14 4 < 481 := by
  have h1 := h.2.2.1; have h2 := h.1.1; omega
theorem PS.on {σ : ZS} (h : PS σ) (hn : zA σ 12 0 (zI σ 14 4) ≠ 0) : PS (zsI σ 14 4 (zI σ 14 4 + 1)) := by
  have h1 := h.2.2.1; have h2 := h.2.1
  refine h.mv (ob_i (by decide)) (ob_i (by decide)) (ob_i (by decide)) rfl ?_
  show 0 ≤ zI σ 14 4 + 1 ∧ zI σ 14 4 + 1 ≤ zI σ 12 3 - 1
  have : zI σ 14 4 ≠ zI σ 12 3 - 1 := fun e => hn (by rw [e]; exact h2.2)
  omega
theorem c_type {σ : ZS} {Q : Int → ZS → Prop} (h : PS σ) (hQ : Q (zA σ 12 0 (zI σ 14 4)) σ) : wpX8_type σ Q := ⟨h.at, hQ⟩
theorem c_value {σ : ZS} {Q : Int → ZS → Prop} (h : PS σ) (hQ : Q (zA σ 12 1 (zI σ 14 4)) σ) : wpX8_value σ Q := ⟨h.at, hQ⟩
theorem c_take {σ : ZS} {a : Int} {Q : Int → ZS → Prop} (h : PS σ) (ha : 1 ≤ a ∧ a ≤ 126) (h1 : zA σ 12 0 (zI σ 14 4) = a → PS (zsI σ 14 4 (zI σ 14 4 + 1)) → Q 1 (zsI σ 14 4 (zI σ 14 4 + 1))) (h0 : zA σ 12 0 (zI σ 14 4) ≠ a → Q 0 σ) : wpX8_take a σ Q := by
  have ht := h.tk.1
  unfold wpX8_take
  exact ⟨h.at, by omega, by omega, fun e => h1 e (h.on (by omega)), h0⟩
/-- the draft grows -/
theorem c_add {σ : ZS} {t v n p w : Int} {Q : ZS → Prop} (h : PS σ) (hi : IT (zI σ 11 5) t v n p w) (ho : t = 0 ∨ t = 2 ∨ t = 3 ∨ zI σ 14 5 = 1) (hQ : ∀ τ : ZS, PS τ → kp [13] σ τ → (zI τ 13 7 = 248 ∨ ∃ j : Int, 0 ≤ j ∧ j < zI τ 13 7 ∧ zA τ 13 0 j = t) → Q τ) : wpX0_add t v n p w σ Q := by
  have h' := h
  obtain ⟨h1, h2, h3, h4, ⟨d1, d2, d3⟩, ⟨o1, o2⟩, h7⟩ := h'
  have key : ∀ τ : ZS, zI σ 13 7 < 248 → kp [13] σ τ → zI τ 13 7 = zI σ 13 7 + 1 → zA τ 13 0 = zu (zA σ 13 0) (zI σ 13 7) t → zA τ 13 1 = zu (zA σ 13 1) (zI σ 13 7) v → zA τ 13 2 = zu (zA σ 13 2) (zI σ 13 7) n → zA τ 13 3 = zu (zA σ 13 3) (zI σ 13 7) p → zA τ 13 4 = zu (zA σ 13 4) (zI σ 13 7) w → zA τ 13 6 = zu (zA σ 13 6) (zI σ 13 7) 0 → Q τ := by
    intro τ hlt k ez e0 e1 e2 e3 e4 e6
    have e14 := k.I (g := 14) (by decide)
    have o1' : ∀ i : Int, 0 ≤ i → i < zI σ 13 7 → zu (zA σ 13 0) (zI σ 13 7) t i = zA σ 13 0 i := fun i i0 i1 => pu_ne (by omega)
    refine hQ τ ⟨h1.k (k 11 (by decide)) (k 12 (by decide)), ?_, ?_, ?_, ⟨by omega, fun i i0 i1 => ?_, fun i i0 i1 => ?_⟩, ⟨fun i i0 i1 => ?_, fun q => ?_⟩, by rw [k.I (by decide) 5]; exact h7⟩ k (Or.inr ⟨zI σ 13 7, d1.1, by omega, by rw [e0]; exact pu_eq⟩)
    · rw [k.I (by decide) 3, k.A (by decide) 0]; exact h2
    · rw [e14 4, k.I (by decide) 3]; exact h3
    · rw [e14 5]; exact h4
    · rw [k.I (by decide) 5, e0, e1, e2, e3, e4]
      by_cases e : i = zI σ 13 7
      · rw [e, pu_eq, pu_eq, pu_eq, pu_eq, pu_eq]; exact hi
      · rw [pu_ne e, pu_ne e, pu_ne e, pu_ne e, pu_ne e]; exact d2 i i0 (by omega)
    · rw [e6]
      by_cases e : i = zI σ 13 7
      · rw [e, pu_eq]; decide
      · rw [pu_ne e]; exact d3 i i0 (by omega)
    · rw [e0]
      by_cases e : i = zI σ 13 7
      · rw [e, pu_eq]
        rcases ho with q | q | q | q
        · exact Or.inl q
        · exact Or.inr (Or.inl q)
        · exact Or.inr (Or.inr (Or.inl q))
        · rcases o2 (by omega) with r | ⟨j, j0, j1, j2⟩
          · omega
          · exact Or.inr (Or.inr (Or.inr ⟨j, j0, j1, by rw [o1' j j0 j1]; exact j2⟩))
      · rw [pu_ne e]
        rcases o1 i i0 (by omega) with q | q | q | ⟨j, j0, j1, j2⟩
        · exact Or.inl q
        · exact Or.inr (Or.inl q)
        · exact Or.inr (Or.inr (Or.inl q))
        · exact Or.inr (Or.inr (Or.inr ⟨j, j0, j1, by rw [o1' j j0 (by omega)]; exact j2⟩))
    · rw [e14 5] at q
      rcases o2 q with r | ⟨j, j0, j1, j2⟩
      · omega
      · exact Or.inr ⟨j, j0, by omega, by rw [e0, o1' j j0 j1]; exact j2⟩
  unfold wpX0_add wpX0_add_92
  refine ⟨by omega, fun a => hQ σ h kp.rf (Or.inl (by omega)), fun a => ⟨by omega, key _ (by omega) ((((((((kp.rf.ta (by decide)).ta (by decide)).ta (by decide)).ta (by decide)).ta (by decide)).ta (by decide)).ta (by decide)).ti (by decide)) rfl rfl rfl rfl rfl rfl rfl⟩⟩
/-! an operand -/
def OPB (σ : ZS) (g : Int) : Prop := (0 ≤ zI σ g 0 ∧ zI σ g 0 ≤ 16) ∧ (-1 ≤ zI σ g 3 ∧ zI σ g 3 < zI σ 11 5) ∧ (0 ≤ zI σ g 3 → 0 ≤ zI σ g 4) ∧ (-1 ≤ zI σ g 4 ∧ zI σ g 4 ≤ 480) ∧ (0 ≤ zI σ g 5 ∧ zI σ g 5 ≤ 1) ∧ (zI σ g 6 = 0 ∨ zI σ g 6 = 3 ∨ zI σ g 6 = 5) ∧ (zI σ g 7 = 0 ∨ zI σ g 7 = 6 ∨ zI σ g 7 = 7)
def OPI (σ : ZS) (g : Int) : Prop := OPB σ g ∧ (0 ≤ zI σ g 2 ∧ zI σ g 2 ≤ 65536)
theorem OPB.k {σ τ : ZS} {g : Int} (h : OPB σ g) (e : ob τ 11 = ob σ 11) (e' : ob τ g = ob σ g) : OPB τ g := by
  have e1 := ob_I e; have e3 := ob_I e'
  unfold OPB; simp only [e1, e3]; exact h
theorem OPI.k {σ τ : ZS} {g : Int} (h : OPI σ g) (e : ob τ 11 = ob σ 11) (e' : ob τ g = ob σ g) : OPI τ g := ⟨h.1.k e e', by rw [ob_I e' 2]; exact h.2⟩
/-- an operand is read: what may change -/
def OG (g : Int) (σ τ : ZS) : Prop := PS τ ∧ kp [g, 14] σ τ ∧ zI τ 14 5 = zI σ 14 5
theorem OG.rf {g : Int} {σ : ZS} (h : PS σ) : OG g σ σ := ⟨h, kp.rf, rfl⟩
theorem OG.tr {g : Int} {σ τ υ : ZS} (h : OG g σ τ) (k : OG g τ υ) : OG g σ υ := ⟨k.1, h.2.1.tr k.2.1, k.2.2.trans h.2.2⟩
theorem m_g1 {g h : Int} : g ∈ [g, h] := List.mem_cons_self
theorem m_g2 {g h : Int} : h ∈ [g, h] := List.mem_cons_of_mem _ List.mem_cons_self
theorem m_no {g a b : Int} (h1 : a ≠ g) (h2 : a ≠ b) : a ∉ [g, b] := by
  intro q
  rcases List.mem_cons.mp q with e | q
  · exact h1 e
  · exact h2 (List.mem_singleton.mp q)
theorem OG.on {g : Int} {σ τ : ZS} (h : OG g σ τ) (hn : zA τ 12 0 (zI τ 14 4) ≠ 0) : OG g σ (zsI τ 14 4 (zI τ 14 4 + 1)) := ⟨h.1.on hn, h.2.1.ti m_g2, h.2.2⟩
theorem OG.g {g v : Int} {σ τ : ZS} {f : Nat} (h : OG g σ τ) (hg : 5 ≤ g ∧ g ≤ 6) : OG g σ (zsI τ g f v) := ⟨h.1.mv (ob_i (by omega)) (ob_i (by omega)) (ob_i (by omega)) (zI_g (by omega)) (by rw [zI_g (by omega)]; exact h.1.2.2.1), h.2.1.ti m_g1, (zI_g (by omega)).trans h.2.2⟩
theorem c_clear {g k : Int} {σ : ZS} {Q : ZS → Prop} (hg : 5 ≤ g ∧ g ≤ 6) (h : PS σ) (hk : 0 ≤ k ∧ k ≤ 16) (hQ : ∀ τ : ZS, OG g σ τ → OPI τ g → zI τ g 0 = k → zI τ g 3 = -1 → ob τ 14 = ob σ 14 → Q τ) : wpX7_clear g k σ Q := by
  have hN := h.2.2.2.2.2.2
  have key : ∀ τ : ZS, kp [g] σ τ → zI τ g 0 = k → zI τ g 2 = 0 → zI τ g 3 = -1 → zI τ g 4 = -1 → zI τ g 5 = 0 → zI τ g 6 = 0 → zI τ g 7 = 0 → Q τ := by
    intro τ kk e0 e2 e3 e4 e5 e6 e7
    have nn : ∀ a : Int, a ≠ g → a ∉ [g] := fun a q q' => q (List.mem_singleton.mp q')
    have e11 := kk 11 (nn 11 (by omega))
    refine hQ τ ⟨h.k kk (nn 11 (by omega)) (nn 12 (by omega)) (nn 13 (by omega)) (nn 14 (by omega)), kk.up (fun a q => by rw [List.mem_singleton.mp q]; exact m_g1), kk.I (nn 14 (by omega)) 5⟩ ⟨⟨?_, ?_, ?_, ?_, ?_, Or.inl e6, Or.inl e7⟩, by rw [e2]; decide⟩ e0 e3 (kk 14 (nn 14 (by omega)))
    · rw [e0]; exact hk
    · rw [e3, ob_I e11 5]; omega
    · rw [e3]; intro q; exact absurd q (by decide)
    · rw [e4]; decide
    · rw [e5]; decide
  unfold wpX7_clear
  refine ⟨hg, ?_⟩
  obtain rfl | rfl : g = 5 ∨ g = 6 := by omega
  · exact key _ ((((((((kp.rf.ti (by decide)).ti (by decide)).ti (by decide)).ti (by decide)).ti (by decide)).ti (by decide)).ti (by decide)).ti (by decide)) rfl rfl rfl rfl rfl rfl rfl
  · exact key _ ((((((((kp.rf.ti (by decide)).ti (by decide)).ti (by decide)).ti (by decide)).ti (by decide)).ti (by decide)).ti (by decide)).ti (by decide)) rfl rfl rfl rfl rfl rfl rfl
theorem OPB.n2 {g v : Int} {τ : ZS} (h : OPB τ g) (hg : 5 ≤ g ∧ g ≤ 6) : OPB (zsI τ g 2 v) g := by
  unfold OPB
  simp only [zI_g (show (11 : Int) ≠ g by omega), zI_f (show (0 : Nat) ≠ 2 by decide), zI_f (show (3 : Nat) ≠ 2 by decide), zI_f (show (4 : Nat) ≠ 2 by decide), zI_f (show (5 : Nat) ≠ 2 by decide), zI_f (show (6 : Nat) ≠ 2 by decide), zI_f (show (7 : Nat) ≠ 2 by decide)]
  exact h
/-! C: statements -/
def PG (σ τ : ZS) : Prop := PS τ ∧ kp [5, 6, 13, 14] σ τ ∧ zI τ 14 5 = zI σ 14 5
theorem PG.rf {σ : ZS} (h : PS σ) : PG σ σ := ⟨h, kp.rf, rfl⟩
theorem PG.tr {σ τ υ : ZS} (h : PG σ τ) (k : PG τ υ) : PG σ υ := ⟨k.1, h.2.1.tr k.2.1, k.2.2.trans h.2.2⟩
theorem PG.on {σ τ : ZS} (h : PG σ τ) (hn : zA τ 12 0 (zI τ 14 4) ≠ 0) : PG σ (zsI τ 14 4 (zI τ 14 4 + 1)) := ⟨h.1.on hn, h.2.1.ti (by decide), h.2.2⟩
theorem PG.o5 {σ τ υ : ZS} (h : PG σ τ) (k : OG 5 τ υ) : PG σ υ := ⟨k.1, h.2.1.tr (k.2.1.up (by decide)), k.2.2.trans h.2.2⟩
theorem PG.o6 {σ τ υ : ZS} (h : PG σ τ) (k : OG 6 τ υ) : PG σ υ := ⟨k.1, h.2.1.tr (k.2.1.up (by decide)), k.2.2.trans h.2.2⟩
theorem PG.ad {σ τ υ : ZS} (h : PG σ τ) (hp : PS υ) (k : kp [13] τ υ) : PG σ υ := ⟨hp, h.2.1.tr (k.up (by decide)), (k.I (by decide) 5).trans h.2.2⟩
theorem c_isShort {a : Int} {σ : ZS} {Q : Int → ZS → Prop} (ha : -2147483648 ≤ a ∧ a ≤ 2147483647) (h1 : -128 ≤ a → a ≤ 127 → Q 1 σ) (h0 : ¬ (-128 ≤ a ∧ a ≤ 127) → Q 0 σ) : wpX2_isShort a σ Q := by
  unfold wpX2_isShort wpX2_isShort_16 wpX2_isShort_17
  exact ⟨ha, fun _ => ⟨by decide, h0 (by omega)⟩, fun _ => ⟨fun _ => ⟨by decide, h0 (by omega)⟩, fun _ => ⟨by decide, h1 (by omega) (by omega)⟩⟩⟩
theorem n_13 {g : Int} (hg : 5 ≤ g ∧ g ≤ 6) : g ∉ [(13 : Int)] := fun q => by have := List.mem_singleton.mp q; omega
theorem c_bitCount {a : Int} {σ : ZS} {Q : Int → ZS → Prop} (ha : 1 ≤ a ∧ a ≤ 16) (h1 : ∀ x : Int, (-2147483648 ≤ x ∧ x ≤ 2147483647) → (x = 1 → al a) → (al a → x = 1) → Q x σ) : wpJ6_bitCount_0f7a4 a σ Q := by
  unfold wpJ6_bitCount_0f7a4
  have hc : a = 1 ∨ a = 2 ∨ a = 3 ∨ a = 4 ∨ a = 5 ∨ a = 6 ∨ a = 7 ∨ a = 8 ∨ a = 9 ∨ a = 10 ∨ a = 11 ∨ a = 12 ∨ a = 13 ∨ a = 14 ∨ a = 15 ∨ a = 16 := by omega
  rcases hc with rfl | rfl | rfl | rfl | rfl | rfl | rfl | rfl | rfl | rfl | rfl | rfl | rfl | rfl | rfl | rfl <;> exact ⟨by decide, by decide, by decide, by decide, by decide, h1 _ (by decide) (by unfold al; decide) (by unfold al; decide)⟩
theorem c_isAlign {a : Int} {σ : ZS} {Q : Int → ZS → Prop} (ha : 0 ≤ a ∧ a ≤ 65536) (h1 : al a → Q 1 σ) (h0 : ¬ al a → Q 0 σ) : wpX8_isAlign a σ Q := by
  unfold wpX8_isAlign wpX8_isAlign_23 wpX8_isAlign_24
  exact ⟨by omega, fun _ => ⟨by decide, h0 (by unfold al; omega)⟩, fun _ => ⟨fun _ => ⟨by decide, h0 (by unfold al; omega)⟩, fun _ => c_bitCount (by omega) (fun x hx q1 q2 => ⟨hx, fun n => ⟨by decide, h0 (fun q => n (q2 q))⟩, fun e => ⟨by decide, h1 (q1 e)⟩⟩)⟩⟩
theorem PS.op {σ : ZS} (h : PS σ) (ho : zI σ 13 7 = 248 ∨ ∃ j : Int, 0 ≤ j ∧ j < zI σ 13 7 ∧ zA σ 13 0 j = 0) : PS (zsI σ 14 5 1) := by
  obtain ⟨h1, h2, h3, h4, h5, ⟨o1, o2⟩, h7⟩ := h
  exact ⟨h1.k (ob_i (by decide)) (ob_i (by decide)), h2, h3, (show (0 : Int) ≤ 1 ∧ (1 : Int) ≤ 1 by decide), h5.k (ob_i (by decide)) (ob_i (by decide)), ⟨o1, fun _ => ho⟩, h7⟩
theorem zform_bd {i : Int} (h : 0 ≤ i ∧ i < 36) : 0 ≤ zform i ∧ zform i ≤ 17 := by
  have key : ∀ n : Nat, n < 36 → 0 ≤ zFORM.getD n 0 ∧ zFORM.getD n 0 ≤ 17 := by decide
  exact key i.toNat (by omega)
/-! C: names are judged -/
def DJ (σ : ZS) : Prop := DIw σ ∧ (∀ i : Int, 0 ≤ i → i < zI σ 13 7 → zA σ 13 0 i = 0 ∨ zA σ 13 0 i = 2 ∨ zA σ 13 0 i = 3 ∨ ∃ j : Int, 0 ≤ j ∧ j < i ∧ zA σ 13 0 j = 0)
def LRg (σ : ZS) : Prop := ∀ s : Int, 0 ≤ s → s < 60 → (0 ≤ zA σ 15 2 s ∧ zA σ 15 2 s < 240) ∧ (0 ≤ zA σ 15 3 s ∧ zA σ 15 3 s ≤ 20000)
def RO (σ : ZS) : Prop := ∀ n : Int, 0 ≤ n → n < zI σ 11 5 → (zA σ 11 1 n = 0 → zA σ 11 2 n = -1) ∧ (zA σ 11 1 n = 1 → 0 ≤ zA σ 11 2 n ∧ zA σ 11 2 n < zI σ 15 4 ∧ al (zA σ 11 3 n)) ∧ (zA σ 11 1 n = 2 → -1 ≤ zA σ 11 2 n ∧ zA σ 11 2 n < zI σ 15 4 ∧ (zI σ 15 5 < 0 → 0 ≤ zA σ 11 2 n)) ∧ (zA σ 11 1 n = 3 → zA σ 11 2 n = -1)
def SN (σ : ZS) : Prop := ∀ s : Int, 0 ≤ s → s < zI σ 15 4 → (0 ≤ zA σ 15 2 s ∧ zA σ 15 2 s < zI σ 11 5) ∧ zA σ 11 1 (zA σ 15 2 s) = 1 ∧ zA σ 11 2 (zA σ 15 2 s) = s
def LY (σ : ZS) : Prop := NR σ ∧ NS σ ∧ DJ σ ∧ (0 ≤ zI σ 15 4 ∧ zI σ 15 4 ≤ 60) ∧ (-1 ≤ zI σ 15 5 ∧ zI σ 15 5 ≤ 480) ∧ (0 ≤ zI σ 11 6 → 0 ≤ zI σ 15 5) ∧ LRg σ ∧ RO σ ∧ SN σ
def CU (σ : ZS) (c i : Int) : Prop := (-1 ≤ c ∧ c < zI σ 15 4) ∧ (zI σ 15 5 < 0 → 0 ≤ c ∨ (zI σ 15 4 = 0 ∧ ∀ j : Int, 0 ≤ j → j < i → zA σ 13 0 j ≠ 0))
def DS (σ : ZS) (i : Int) : Prop := ∀ j : Int, 0 ≤ j → j < i → -1 ≤ zA σ 13 5 j ∧ zA σ 13 5 j < zI σ 15 4
theorem DJ.k {σ τ : ZS} (h : DJ σ) (e5 : zI τ 11 5 = zI σ 11 5) (e' : ob τ 13 = ob σ 13) : DJ τ := by
  have e3 := ob_I e'; have e4 := ob_A e'
  unfold DJ DIw; simp only [e5, e3, e4]; exact h
theorem LY.bl {σ : ZS} {v : Int} (h : LY σ) (v0 : 0 ≤ v) (v1 : v ≤ 480) : LY (zsI σ 15 5 v) := by
  obtain ⟨a1, a2, a3, a4, a5, a6, a7, a8, a9⟩ := h
  refine ⟨a1, a2, a3.k rfl (ob_i (by decide)), a4, ?_, fun _ => v0, a7, fun n n0 n1 => ?_, a9⟩
  · show -1 ≤ v ∧ v ≤ 480
    omega
  · obtain ⟨b0, b1, b2, b3⟩ := a8 n n0 n1
    refine ⟨b0, b1, fun e => ⟨(b2 e).1, (b2 e).2.1, fun q => ?_⟩, b3⟩
    have q' : v < 0 := q
    omega
theorem LY.it {σ : ZS} {i : Int} (h : LY σ) (i0 : 0 ≤ i) (i1 : i < zI σ 13 7) : ITw (zI σ 11 5) (zA σ 13 0 i) (zA σ 13 1 i) (zA σ 13 2 i) (zA σ 13 3 i) (zA σ 13 4 i) := h.2.2.1.1.2.1 i i0 i1
theorem LY.sz {σ : ZS} (h : LY σ) : 0 ≤ zI σ 13 7 ∧ zI σ 13 7 ≤ 248 := h.2.2.1.1.1
theorem c_blame {σ : ZS} {p : Int} {Q : ZS → Prop} (h : LY σ) (hp : 0 ≤ p ∧ p ≤ 480) (h0 : 0 ≤ zI σ 15 5 → Q σ) (hb : ∀ v : Int, 0 ≤ v → v ≤ 480 → Q (zsI σ 15 5 v)) : wpX2_blame p σ Q := by
  have a5 := h.2.2.2.2.1
  unfold wpX2_blame wpX2_blame_15 wpX2_blame_20
  exact ⟨by omega, fun _ => hb _ hp.1 hp.2, fun q => ⟨by omega, fun _ => h0 (by omega), fun _ => hb _ hp.1 hp.2⟩⟩
theorem c_mayDeclare {σ : ZS} {i : Int} {Q : Int → ZS → Prop} (h : LY σ) (hi : 0 ≤ i ∧ i < zI σ 13 7) (hn : 0 ≤ zA σ 13 2 i) (h1 : zA σ 11 1 (zA σ 13 2 i) = 0 → Q 1 σ) (h0 : 0 ≤ zI σ 15 5 → Q 0 σ) (hb : ∀ v : Int, 0 ≤ v → v ≤ 480 → Q 0 (zsI σ 15 5 v)) : wpX2_mayDeclare i σ Q := by
  have hz := h.sz
  obtain ⟨i1, i2, i3, i4, i5, i6, i7, i8, i9, i10⟩ := h.it hi.1 hi.2
  have hN := h.2.1.1
  have hc := h.2.1.2.1
  have hr := (h.1 (zA σ 13 2 i) hn (by omega)).2.1
  have hp := i7 hn
  unfold wpX2_mayDeclare wpX2_mayDeclare_43
  exact ⟨by omega, by omega, by omega, fun _ => c_blame h (by omega) h0 hb, fun e => ⟨by omega, by omega, fun _ => c_blame h (by omega) h0 hb, fun _ => h1 e⟩⟩
theorem c_openSegment {σ : ZS} {i c : Int} {Q : Int → ZS → Prop} (h : LY σ) (hi : 0 ≤ i ∧ i < zI σ 13 7) (ht : zA σ 13 0 i = 0) (hc : CU σ c i) (hQ : ∀ (x : Int) (τ : ZS), LY τ → CU τ x (i + 1) → ob τ 13 = ob σ 13 → kp [11, 15] σ τ → zI σ 15 4 ≤ zI τ 15 4 → Q x τ) : wpX2_openSegment i c σ Q := by
  have hz := h.sz
  have hit := h.it hi.1 hi.2
  obtain ⟨i1, i2, i3, i4, i5, i6, i7, i8, i9, i10⟩ := hit
  have hn : 0 ≤ zA σ 13 2 i := i6 (by omega) (by omega) (by omega)
  have hal := (i10 (Or.inl ht)).1 ht
  obtain ⟨a1, a2, a3, a4, a5, a6, a7, a8, a9⟩ := h
  have h : LY σ := ⟨a1, a2, a3, a4, a5, a6, a7, a8, a9⟩
  have hN := a2.1
  have hr := a1 (zA σ 13 2 i) hn (by omega)
  obtain ⟨b0, b1, b2, b3⟩ := a8 (zA σ 13 2 i) hn (by omega)
  obtain ⟨c1, c2⟩ := hc
  -- opened
  have key : ∀ τ : ZS, zA σ 11 1 (zA σ 13 2 i) = 0 → zI σ 15 4 < 60 → kp [11, 15] σ τ → zA τ 11 0 = zA σ 11 0 → zA τ 11 1 = zu (zA σ 11 1) (zA σ 13 2 i) 1 → zA τ 11 2 = zu (zA σ 11 2) (zA σ 13 2 i) (zI σ 15 4) → zA τ 11 3 = zu (zA σ 11 3) (zA σ 13 2 i) (zA σ 13 1 i) → zA τ 11 4 = zA σ 11 4 → zI τ 11 5 = zI σ 11 5 → zI τ 11 6 = zI σ 11 6 → zA τ 15 2 = zu (zA σ 15 2) (zI σ 15 4) (zA σ 13 2 i) → zA τ 15 3 = zA σ 15 3 → zI τ 15 4 = zI σ 15 4 + 1 → zI τ 15 5 = zI σ 15 5 → Q (zI σ 15 4 + 1 - 1) τ := by
    intro τ r0 lt k e0 e1 e2 e3 e4 e5 e6 f2 f3 f4 f5
    have e13 := k 13 (by decide)
    refine hQ _ τ ⟨fun n n0 n1 => ?_, ?_, a3.k e5 e13, by omega, by omega, by rw [e6, f5]; exact a6, fun s s0 s1 => ?_, fun n n0 n1 => ?_, fun s s0 s1 => ?_⟩ ⟨by omega, fun _ => Or.inl (by omega)⟩ e13 k (by omega)
    · obtain ⟨x0, x1, x2, x3, x4⟩ := a1 n n0 n1
      rw [e0, e1, e2, e3, e4]
      by_cases e : n = zA σ 13 2 i
      · rw [e, pu_eq, pu_eq, pu_eq]
        rw [e] at x0 x4
        have : zA σ 13 1 i ≤ 16 := by unfold al at hal; omega
        exact ⟨x0, by decide, by omega, by omega, x4⟩
      · rw [pu_ne e, pu_ne e, pu_ne e]; exact ⟨x0, x1, x2, x3, x4⟩
    · unfold NS; rw [e5, e6]; exact a2
    · rw [f2, f3]
      refine ⟨?_, (a7 s s0 s1).2⟩
      by_cases e : s = zI σ 15 4
      · rw [e, pu_eq]; omega
      · rw [pu_ne e]; exact (a7 s s0 s1).1
    · rw [e5] at n1
      rw [e1, e2, e3, f4, f5]
      by_cases e : n = zA σ 13 2 i
      · rw [e, pu_eq, pu_eq, pu_eq]
        exact ⟨fun q => absurd q (by decide), fun _ => ⟨a4.1, by omega, hal⟩, fun q => absurd q (by decide), fun q => absurd q (by decide)⟩
      · rw [pu_ne e, pu_ne e, pu_ne e]
        obtain ⟨y0, y1, y2, y3⟩ := a8 n n0 n1
        exact ⟨y0, fun q => by obtain ⟨z1, z2, z3⟩ := y1 q; exact ⟨z1, by omega, z3⟩, fun q => by obtain ⟨z1, z2, z3⟩ := y2 q; exact ⟨z1, by omega, z3⟩, y3⟩
    · rw [f4] at s1
      rw [f2, e5, e1, e2]
      by_cases e : s = zI σ 15 4
      · rw [e, pu_eq, pu_eq, pu_eq]; exact ⟨by omega, rfl, rfl⟩
      · rw [pu_ne e]
        obtain ⟨z1, z2, z3⟩ := a9 s s0 (by omega)
        have ne : zA σ 15 2 s ≠ zA σ 13 2 i := fun q => by rw [q] at z2; omega
        rw [pu_ne ne, pu_ne ne]; exact ⟨z1, z2, z3⟩
  have stay : (zI σ 15 5 < 0 → 0 ≤ c) → Q c σ := fun q => hQ c σ h ⟨c1, fun w => Or.inl (q w)⟩ rfl kp.rf (Int.le_refl _)
  have f58 : wpX2_openSegment_58 i c (zA σ 13 2 i) (zA σ 13 1 i) σ Q := by
    unfold wpX2_openSegment_58 wpX2_openSegment_75
    refine c_mayDeclare h hi hn (fun r0 => ⟨by decide, fun q => absurd q (by decide), fun _ => ⟨by omega, fun lt => ⟨by omega, by omega, ?_, ?_⟩, fun ge => stay (fun w => ?_)⟩⟩) (fun w => ⟨by decide, fun _ => stay (fun q => absurd q (by omega)), fun q => absurd rfl q⟩) (fun v v0 v1 => ⟨by decide, fun _ => ?_, fun q => absurd rfl q⟩)
    · show 0 ≤ zI σ 15 4 ∧ zI σ 15 4 < 60
      omega
    · exact key _ r0 lt (((((kp.rf.ta (by decide)).ta (by decide)).ta (by decide)).ta (by decide)).ti (by decide)) rfl rfl rfl rfl rfl rfl rfl rfl rfl rfl rfl
    · rcases c2 w with q | ⟨q, -⟩
      · exact q
      · omega
    · refine hQ c _ (h.bl v0 v1) ⟨c1, fun w => ?_⟩ (ob_i (by decide)) (kp.i (by decide)) (Int.le_refl _)
      have w' : v < 0 := w
      omega
  unfold wpX2_openSegment
  refine ⟨by omega, by omega, by omega, fun _ => f58, fun e1 => ⟨by omega, by omega, fun _ => f58, fun _ => ?_⟩⟩
  obtain ⟨z1, z2, z3⟩ := b1 e1
  exact hQ _ σ h ⟨by omega, fun _ => Or.inl z1⟩ rfl kp.rf (Int.le_refl _)
theorem c_declare {σ : ZS} {i r c : Int} {Q : ZS → Prop} (h : LY σ) (hi : 0 ≤ i ∧ i < zI σ 13 7) (hn : 0 ≤ zA σ 13 2 i) (hr : (r = 2 ∧ (-1 ≤ c ∧ c < zI σ 15 4) ∧ (zI σ 15 5 < 0 → 0 ≤ c)) ∨ (r = 3 ∧ c = -1)) (hQ : ∀ τ : ZS, LY τ → ob τ 13 = ob σ 13 → kp [11, 15] σ τ → zI τ 15 4 = zI σ 15 4 → (zI τ 15 5 < 0 → zI σ 15 5 < 0) → Q τ) : wpX2_declare i r c σ Q := by
  have hz := h.sz
  have hit := h.it hi.1 hi.2
  obtain ⟨i1, i2, i3, i4, i5, i6, i7, i8, i9, i10⟩ := hit
  obtain ⟨a1, a2, a3, a4, a5, a6, a7, a8, a9⟩ := h
  have h : LY σ := ⟨a1, a2, a3, a4, a5, a6, a7, a8, a9⟩
  have hN := a2.1
  have key : ∀ τ : ZS, zA σ 11 1 (zA σ 13 2 i) = 0 → kp [11, 15] σ τ → ob τ 15 = ob σ 15 → zA τ 11 0 = zA σ 11 0 → zA τ 11 1 = zu (zA σ 11 1) (zA σ 13 2 i) r → zA τ 11 2 = zu (zA σ 11 2) (zA σ 13 2 i) c → zA τ 11 3 = zA σ 11 3 → zA τ 11 4 = zA σ 11 4 → zI τ 11 5 = zI σ 11 5 → zI τ 11 6 = zI σ 11 6 → Q τ := by
    intro τ r0 k e15 e0 e1 e2 e3 e4 e5 e6
    have e13 := k 13 (by decide)
    have g1 := ob_I e15; have g2 := ob_A e15
    refine hQ τ ⟨fun n n0 n1 => ?_, ?_, a3.k e5 e13, by rw [g1 4]; exact a4, by rw [g1 5]; exact a5, by rw [e6, g1 5]; exact a6, ?_, fun n n0 n1 => ?_, fun s s0 s1 => ?_⟩ e13 k (g1 4) (fun q => by rw [g1 5] at q; exact q)
    · obtain ⟨x0, x1, x2, x3, x4⟩ := a1 n n0 n1
      rw [e0, e1, e2, e3, e4]
      by_cases e : n = zA σ 13 2 i
      · rw [e, pu_eq, pu_eq]
        rw [e] at x0 x3 x4
        exact ⟨x0, by omega, by omega, x3, x4⟩
      · rw [pu_ne e, pu_ne e]; exact ⟨x0, x1, x2, x3, x4⟩
    · unfold NS; rw [e5, e6]; exact a2
    · unfold LRg; rw [g2 2, g2 3]; exact a7
    · rw [e5] at n1
      rw [e1, e2, e3, g1 4, g1 5]
      by_cases e : n = zA σ 13 2 i
      · rw [e, pu_eq, pu_eq]
        rcases hr with ⟨q1, q2, q3⟩ | ⟨q1, q2⟩
        · exact ⟨fun q => by omega, fun q => by omega, fun _ => ⟨q2.1, q2.2, q3⟩, fun q => by omega⟩
        · exact ⟨fun q => by omega, fun q => by omega, fun q => by omega, fun _ => q2⟩
      · rw [pu_ne e, pu_ne e]; exact a8 n n0 n1
    · rw [g1 4] at s1
      rw [g2 2, e5, e1, e2]
      obtain ⟨z1, z2, z3⟩ := a9 s s0 s1
      have ne : zA σ 15 2 s ≠ zA σ 13 2 i := fun q => by rw [q] at z2; omega
      rw [pu_ne ne, pu_ne ne]; exact ⟨z1, z2, z3⟩
  unfold wpX2_declare wpX2_declare_26 wpX5_make
  refine c_mayDeclare h hi hn (fun r0 => ⟨by decide, fun q => absurd q (by decide), fun _ => ⟨by omega, by omega, key _ r0 ((kp.rf.ta (by decide)).ta (by decide)) ((ob_a (by decide)).trans (ob_a (by decide))) rfl rfl rfl rfl rfl rfl rfl⟩⟩) (fun w => ⟨by decide, fun _ => hQ σ h rfl kp.rf rfl (fun q => q), fun q => absurd rfl q⟩) (fun v v0 v1 => ⟨by decide, fun _ => hQ _ (h.bl v0 v1) (ob_i (by decide)) (kp.i (by decide)) rfl (fun q => ?_), fun q => absurd rfl q⟩)
  have q' : v < 0 := q
  omega
/-- the segment of an item -/
theorem LY.s5 {σ : ZS} {i v : Int} (h : LY σ) : LY (zsA σ 13 5 i v) := h
def UR (σ : ZS) (i : Int) : Prop := ∀ j : Int, 0 ≤ j → j < i → zA σ 13 0 j = 2 → zA σ 11 1 (zA σ 13 2 j) = 2
theorem c_isUseRight {σ : ZS} {i : Int} {Q : Int → ZS → Prop} (h : LY σ) (hd : DS σ (zI σ 13 7)) (hi : 0 ≤ i ∧ i < zI σ 13 7) (h1 : (zA σ 13 0 i = 2 → zA σ 11 1 (zA σ 13 2 i) = 2) → Q 1 σ) (h0 : 0 ≤ zA σ 13 2 i → Q 0 σ) : wpX2_isUseRight i σ Q := by
  have hz := h.sz
  have hs := hd i hi.1 hi.2
  obtain ⟨i1, i2, i3, i4, i5, i6, i7, i8, i9, i10⟩ := h.it hi.1 hi.2
  have hN := h.2.1.1
  have a4 := h.2.2.2.1
  have f57 : ∀ s : Int, (0 ≤ s ∧ s ≤ 1) → 0 ≤ zA σ 13 2 i → wpX2_isUseRight_57 i (zA σ 11 1 (zA σ 13 2 i)) s σ Q := by
    intro s hs hn
    have hr := (h.1 (zA σ 13 2 i) hn (by omega)).2.1
    have y : zA σ 13 0 i ≠ 2 → Q 1 σ := fun n => h1 (fun q => absurd q n)
    have f152 : zA σ 13 0 i ≠ 2 → wpX2_isUseRight_152 (zA σ 11 1 (zA σ 13 2 i)) s σ Q := by
      intro n
      unfold wpX2_isUseRight_152 wpX2_isUseRight_162 wpX2_isUseRight_167
      exact ⟨by omega, fun _ => ⟨by decide, y n⟩, fun _ => ⟨by omega, fun _ => ⟨by decide, h0 hn⟩, fun _ => ⟨by decide, y n⟩⟩⟩
    have f139 : zA σ 13 0 i ≠ 2 → wpX2_isUseRight_139 (zA σ 11 1 (zA σ 13 2 i)) σ Q := by
      intro n
      unfold wpX2_isUseRight_139 wpX2_isUseRight_148
      exact ⟨by omega, fun _ => ⟨by decide, h0 hn⟩, fun _ => ⟨by decide, y n⟩⟩
    unfold wpX2_isUseRight_57 wpX2_isUseRight_138 wpX2_isUseRight_184 wpX2_isUseRight_178 wpX2_isUseRight_183
    refine ⟨by omega, by omega, fun _ => ⟨by omega, fun _ => ⟨by decide, h0 hn⟩, fun e => ⟨by decide, h1 (fun _ => e)⟩⟩, fun n2 => ⟨fun _ => y n2, fun _ => ⟨fun _ => y n2, fun _ => ⟨fun _ => y n2, fun _ => ⟨fun _ => y n2, fun _ => ⟨fun _ => f139 n2, fun _ => ⟨fun _ => f139 n2, fun _ => ⟨fun _ => f152 n2, fun _ => ⟨fun _ => ⟨hs, ?_⟩, fun _ => ⟨fun _ => f152 n2, fun _ => ⟨fun _ => ⟨by omega, fun _ => ⟨by decide, y n2⟩, fun _ => ⟨fun _ => ⟨by decide, h0 hn⟩, fun _ => ⟨by decide, y n2⟩⟩⟩, fun _ => y n2⟩⟩⟩⟩⟩⟩⟩⟩⟩⟩⟩
    rcases (by omega : s = 0 ∨ s = 1) with e | e
    · rw [e]; exact h0 hn
    · rw [e]; exact y n2
  unfold wpX2_isUseRight wpX2_isUseRight_56
  refine ⟨by omega, by omega, fun hn => ?_, fun hn => h1 (fun q => absurd (i6 (by omega) (by omega) (by omega)) hn)⟩
  have hr := h.1 (zA σ 13 2 i) hn (by omega)
  exact ⟨by omega, by omega, fun _ => f57 0 (by decide) hn, fun _ => ⟨by omega, by omega, fun _ => f57 0 (by decide) hn, fun _ => f57 1 (by decide) hn⟩⟩
/-! C: fills -/
theorem zsF_zsF {σ : ZS} {g : Int} {f : Nat} {h k : Int → Int} : zsF (zsF σ g f h) g f k = zsF σ g f k := by
  unfold zsF
  refine Prod.ext rfl (funext fun g' => funext fun f' => ?_)
  show (if g' = g then (if f' = f then k else (if g' = g then (if f' = f then h else σ.2 g' f') else σ.2 g' f')) else (if g' = g then (if f' = f then h else σ.2 g' f') else σ.2 g' f')) = (if g' = g then (if f' = f then k else σ.2 g' f') else σ.2 g' f')
  by_cases e : g' = g
  · rw [if_pos e, if_pos e, if_pos e]
    by_cases e' : f' = f
    · rw [if_pos e', if_pos e']
    · rw [if_neg e', if_neg e', if_neg e']
  · rw [if_neg e, if_neg e, if_neg e]
theorem zsF_self {σ : ZS} {g : Int} {f : Nat} : zsF σ g f (zA σ g f) = σ := by
  unfold zsF
  refine Prod.ext rfl (funext fun g' => funext fun f' => ?_)
  show (if g' = g then (if f' = f then zA σ g f else σ.2 g' f') else σ.2 g' f') = σ.2 g' f'
  by_cases e : g' = g
  · rw [if_pos e]
    by_cases e' : f' = f
    · rw [if_pos e', e, e']; rfl
    · rw [if_neg e']
  · rw [if_neg e]
theorem zA_F {σ : ZS} {g : Int} {f : Nat} {h : Int → Int} : zA (zsF σ g f h) g f = h := by
  show (if g = g then (if f = f then h else σ.2 g f) else σ.2 g f) = h
  rw [if_pos rfl, if_pos rfl]
theorem zA_Ff {σ : ZS} {g : Int} {f f' : Nat} {h : Int → Int} (e : f' ≠ f) : zA (zsF σ g f h) g f' = zA σ g f' := by
  show (if g = g then (if f' = f then h else σ.2 g f') else σ.2 g f') = _
  rw [if_pos rfl, if_neg e]; rfl
theorem zsA_F {σ : ZS} {g i v : Int} {f : Nat} {h : Int → Int} : zsA (zsF σ g f h) g f i v = zsF σ g f (zu h i v) := by
  unfold zsA
  rw [zA_F, zsF_zsF]
theorem kp.f {G : List Int} {σ : ZS} {g : Int} {f : Nat} {h : Int → Int} (hg : g ∈ G) : kp G σ (zsF σ g f h) := fun g' q => ob_f (fun e => q (e ▸ hg))
theorem kp.tf {G : List Int} {σ τ : ZS} {g : Int} {f : Nat} {h : Int → Int} (k : kp G σ τ) (hg : g ∈ G) : kp G σ (zsF τ g f h) := k.tr (kp.f hg)
theorem c_fill15_3 {σ : ZS} {v : Int} {Q : ZS → Prop} (hQ : ∀ h : Int → Int, (∀ j : Int, 0 ≤ j → j < 60 → h j = v) → Q (zsF σ 15 3 h)) : wpJ7_fill_53178_15_3 v σ Q := by
  unfold wpJ7_fill_53178_15_3 wpJ7_fill_53178_15_3_5
  refine lfp1_ind (fun i _ => (60 - i).toNat) (fun i τ => ∃ h : Int → Int, τ = zsF σ 15 3 h ∧ (0 ≤ i ∧ i ≤ 60) ∧ ∀ j : Int, 0 ≤ j → j < i → h j = v) (fun K i τ hI ih => ?_) ⟨zA σ 15 3, zsF_self.symm, by decide, fun j j0 j1 => absurd j0 (by omega)⟩
  obtain ⟨h, e, hi, hv⟩ := hI
  rw [e]
  unfold wpbJ7_fill_53178_15_3_5
  refine ⟨by omega, by decide, fun q => hQ h (fun j j0 j1 => hv j j0 (by omega)), fun q => ⟨by omega, ih _ _ ⟨zu h i v, zsA_F, by omega, fun j j0 j1 => ?_⟩ (by omega)⟩⟩
  by_cases e' : j = i
  · rw [e', pu_eq]
  · rw [pu_ne e']; exact hv j j0 (by omega)
theorem c_fill17_2 {σ : ZS} {v : Int} {Q : ZS → Prop} (hQ : ∀ h : Int → Int, (∀ j : Int, 0 ≤ j → j < 1200 → h j = v) → Q (zsF σ 17 2 h)) : wpJ7_fill_53178_17_2 v σ Q := by
  unfold wpJ7_fill_53178_17_2 wpJ7_fill_53178_17_2_5
  refine lfp1_ind (fun i _ => (1200 - i).toNat) (fun i τ => ∃ h : Int → Int, τ = zsF σ 17 2 h ∧ (0 ≤ i ∧ i ≤ 1200) ∧ ∀ j : Int, 0 ≤ j → j < i → h j = v) (fun K i τ hI ih => ?_) ⟨zA σ 17 2, zsF_self.symm, by decide, fun j j0 j1 => absurd j0 (by omega)⟩
  obtain ⟨h, e, hi, hv⟩ := hI
  rw [e]
  unfold wpbJ7_fill_53178_17_2_5
  refine ⟨by omega, by decide, fun q => hQ h (fun j j0 j1 => hv j j0 (by omega)), fun q => ⟨by omega, ih _ _ ⟨zu h i v, zsA_F, by omega, fun j j0 j1 => ?_⟩ (by omega)⟩⟩
  by_cases e' : j = i
  · rw [e', pu_eq]
  · rw [pu_ne e']; exact hv j j0 (by omega)
theorem c_fill18_0 {σ : ZS} {v : Int} {Q : ZS → Prop} (hQ : ∀ h : Int → Int, (∀ j : Int, 0 ≤ j → j < 4096 → h j = v) → Q (zsF σ 18 0 h)) : wpJ7_fill_53178_18_0 v σ Q := by
  unfold wpJ7_fill_53178_18_0 wpJ7_fill_53178_18_0_5
  refine lfp1_ind (fun i _ => (4096 - i).toNat) (fun i τ => ∃ h : Int → Int, τ = zsF σ 18 0 h ∧ (0 ≤ i ∧ i ≤ 4096) ∧ ∀ j : Int, 0 ≤ j → j < i → h j = v) (fun K i τ hI ih => ?_) ⟨zA σ 18 0, zsF_self.symm, by decide, fun j j0 j1 => absurd j0 (by omega)⟩
  obtain ⟨h, e, hi, hv⟩ := hI
  rw [e]
  unfold wpbJ7_fill_53178_18_0_5
  refine ⟨by omega, by decide, fun q => hQ h (fun j j0 j1 => hv j j0 (by omega)), fun q => ⟨by omega, ih _ _ ⟨zu h i v, zsA_F, by omega, fun j j0 j1 => ?_⟩ (by omega)⟩⟩
  by_cases e' : j = i
  · rw [e', pu_eq]
  · rw [pu_ne e']; exact hv j j0 (by omega)
theorem c_fill18_1 {σ : ZS} {v : Int} {Q : ZS → Prop} (hQ : ∀ h : Int → Int, (∀ j : Int, 0 ≤ j → j < 8 → h j = v) → Q (zsF σ 18 1 h)) : wpJ7_fill_53178_18_1 v σ Q := by
  unfold wpJ7_fill_53178_18_1 wpJ7_fill_53178_18_1_5
  refine lfp1_ind (fun i _ => (8 - i).toNat) (fun i τ => ∃ h : Int → Int, τ = zsF σ 18 1 h ∧ (0 ≤ i ∧ i ≤ 8) ∧ ∀ j : Int, 0 ≤ j → j < i → h j = v) (fun K i τ hI ih => ?_) ⟨zA σ 18 1, zsF_self.symm, by decide, fun j j0 j1 => absurd j0 (by omega)⟩
  obtain ⟨h, e, hi, hv⟩ := hI
  rw [e]
  unfold wpbJ7_fill_53178_18_1_5
  refine ⟨by omega, by decide, fun q => hQ h (fun j j0 j1 => hv j j0 (by omega)), fun q => ⟨by omega, ih _ _ ⟨zu h i v, zsA_F, by omega, fun j j0 j1 => ?_⟩ (by omega)⟩⟩
  by_cases e' : j = i
  · rw [e', pu_eq]
  · rw [pu_ne e']; exact hv j j0 (by omega)
theorem c_fill18_2 {σ : ZS} {v : Int} {Q : ZS → Prop} (hQ : ∀ h : Int → Int, (∀ j : Int, 0 ≤ j → j < 4 → h j = v) → Q (zsF σ 18 2 h)) : wpJ7_fill_53178_18_2 v σ Q := by
  unfold wpJ7_fill_53178_18_2 wpJ7_fill_53178_18_2_5
  refine lfp1_ind (fun i _ => (4 - i).toNat) (fun i τ => ∃ h : Int → Int, τ = zsF σ 18 2 h ∧ (0 ≤ i ∧ i ≤ 4) ∧ ∀ j : Int, 0 ≤ j → j < i → h j = v) (fun K i τ hI ih => ?_) ⟨zA σ 18 2, zsF_self.symm, by decide, fun j j0 j1 => absurd j0 (by omega)⟩
  obtain ⟨h, e, hi, hv⟩ := hI
  rw [e]
  unfold wpbJ7_fill_53178_18_2_5
  refine ⟨by omega, by decide, fun q => hQ h (fun j j0 j1 => hv j j0 (by omega)), fun q => ⟨by omega, ih _ _ ⟨zu h i v, zsA_F, by omega, fun j j0 j1 => ?_⟩ (by omega)⟩⟩
  by_cases e' : j = i
  · rw [e', pu_eq]
  · rw [pu_ne e']; exact hv j j0 (by omega)
theorem c_fillM {g : Int} {σ : ZS} {v : Int} {Q : ZS → Prop} (hg : 0 ≤ g ∧ g ≤ 2) (hQ : ∀ h : Int → Int, (∀ j : Int, 0 ≤ j → j < 400 → h j = v) → Q (zsF σ g 6 h)) : wpJ7_fill_53178_M_6 g v σ Q := by
  unfold wpJ7_fill_53178_M_6 wpJ7_fill_53178_M_6_5
  refine ⟨hg, lfp1_ind (fun i _ => (400 - i).toNat) (fun i τ => ∃ h : Int → Int, τ = zsF σ g 6 h ∧ (0 ≤ i ∧ i ≤ 400) ∧ ∀ j : Int, 0 ≤ j → j < i → h j = v) (fun K i τ hI ih => ?_) ⟨zA σ g 6, zsF_self.symm, by decide, fun j j0 j1 => absurd j0 (by omega)⟩⟩
  obtain ⟨h, e, hi, hv⟩ := hI
  rw [e]
  unfold wpbJ7_fill_53178_M_6_5
  refine ⟨by omega, by decide, fun q => hQ h (fun j j0 j1 => hv j j0 (by omega)), fun q => ⟨by omega, by omega, ih _ _ ⟨zu h i v, zsA_F, by omega, fun j j0 j1 => ?_⟩ (by omega)⟩⟩
  by_cases e' : j = i
  · rw [e', pu_eq]
  · rw [pu_ne e']; exact hv j j0 (by omega)
/-! C: jumps are sized -/
def LZ (σ : ZS) : Prop := LY σ ∧ DS σ (zI σ 13 7) ∧ UR σ (zI σ 13 7) ∧ zI σ 15 5 < 0
theorem LY.s6 {σ : ZS} {i w : Int} (h : LY σ) (hw : 0 ≤ w ∧ w ≤ 20000) : LY (zsA σ 13 6 i w) := by
  obtain ⟨a1, a2, ⟨⟨d1, d2, d3⟩, d4⟩, a4, a5, a6, a7, a8, a9⟩ := h
  refine ⟨a1, a2, ⟨⟨d1, d2, fun j j0 j1 => ?_⟩, d4⟩, a4, a5, a6, a7, a8, a9⟩
  show 0 ≤ zu (zA σ 13 6) i w j ∧ zu (zA σ 13 6) i w j ≤ 20000
  by_cases e : j = i
  · rw [e, pu_eq]; exact hw
  · rw [pu_ne e]; exact d3 j j0 j1
theorem LZ.s6 {σ : ZS} {i w : Int} (h : LZ σ) (hw : 0 ≤ w ∧ w ≤ 20000) : LZ (zsA σ 13 6 i w) := ⟨h.1.s6 hw, h.2.1, h.2.2.1, h.2.2.2⟩
theorem LY.f3 {σ : ZS} {k : Int → Int} (h : LY σ) (hk : ∀ s : Int, 0 ≤ s → s < 60 → 0 ≤ k s ∧ k s ≤ 20000) : LY (zsF σ 15 3 k) := by
  obtain ⟨a1, a2, a3, a4, a5, a6, a7, a8, a9⟩ := h
  exact ⟨a1, a2, a3.k rfl (ob_f (by decide)), a4, a5, a6, fun s s0 s1 => ⟨(a7 s s0 s1).1, hk s s0 s1⟩, a8, a9⟩
theorem LZ.f3 {σ : ZS} {k : Int → Int} (h : LZ σ) (hk : ∀ s : Int, 0 ≤ s → s < 60 → 0 ≤ k s ∧ k s ≤ 20000) : LZ (zsF σ 15 3 k) := ⟨h.1.f3 hk, h.2.1, h.2.2.1, h.2.2.2⟩
theorem LY.n4 {σ : ZS} {i w : Int} (h : LY σ) (hw : 0 ≤ w ∧ w ≤ 20000) : LY (zsA σ 11 4 i w) := by
  obtain ⟨a1, a2, a3, a4, a5, a6, a7, a8, a9⟩ := h
  refine ⟨fun n n0 n1 => ?_, a2, a3.k rfl (ob_a (by decide)), a4, a5, a6, a7, a8, a9⟩
  obtain ⟨x0, x1, x2, x3, x4⟩ := a1 n n0 n1
  refine ⟨x0, x1, x2, x3, ?_⟩
  show 0 ≤ zu (zA σ 11 4) i w n ∧ zu (zA σ 11 4) i w n ≤ 20000
  by_cases e : n = i
  · rw [e, pu_eq]; exact hw
  · rw [pu_ne e]; exact x4
theorem LZ.n4 {σ : ZS} {i w : Int} (h : LZ σ) (hw : 0 ≤ w ∧ w ≤ 20000) : LZ (zsA σ 11 4 i w) := ⟨h.1.n4 hw, h.2.1, h.2.2.1, h.2.2.2⟩
theorem LY.v3 {σ : ZS} {i : Int} (h : LY σ) (hi : zA σ 13 0 i = 9) : LY (zsA σ 13 1 i 3) := by
  obtain ⟨a1, a2, ⟨⟨d1, d2, d3⟩, d4⟩, a4, a5, a6, a7, a8, a9⟩ := h
  refine ⟨a1, a2, ⟨⟨d1, fun j j0 j1 => ?_, d3⟩, d4⟩, a4, a5, a6, a7, a8, a9⟩
  obtain ⟨i1, i2, i3, i4, i5, i6, i7, i8, i9, i10⟩ := d2 j j0 j1
  show ITw (zI σ 11 5) (zA σ 13 0 j) (zu (zA σ 13 1) i 3 j) (zA σ 13 2 j) (zA σ 13 3 j) (zA σ 13 4 j)
  by_cases e : j = i
  · rw [e, pu_eq]
    rw [e] at i1 i3 i4 i5 i6 i7
    exact ⟨i1, by decide, i3, i4, i5, i6, i7, fun q => absurd q (by omega), fun _ => by decide, fun q => absurd q (by omega)⟩
  · rw [pu_ne e]; exact ⟨i1, i2, i3, i4, i5, i6, i7, i8, i9, i10⟩
theorem LZ.v3 {σ : ZS} {i : Int} (h : LZ σ) (hi : zA σ 13 0 i = 9) : LZ (zsA σ 13 1 i 3) := ⟨h.1.v3 hi, h.2.1, h.2.2.1, h.2.2.2⟩
