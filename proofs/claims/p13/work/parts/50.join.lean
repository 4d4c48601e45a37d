/-! P: reasoning over the predicates -/
theorem pI {σ : ZS} {g g' v : Int} {f f' : Nat} : zI (zsI σ g f v) g' f' = if g' = g then (if f' = f then v else zI σ g' f') else zI σ g' f' := rfl
theorem pu {h : Int → Int} {i v j : Int} : zu h i v j = if j = i then v else h j := rfl
theorem pu_eq {h : Int → Int} {i v : Int} : zu h i v i = v := if_pos rfl
theorem pu_ne {h : Int → Int} {i v j : Int} (e : j ≠ i) : zu h i v j = h j := if_neg e
theorem lfp0_ind {F : (ZS → Prop) → ZS → Prop} (m : ZS → Nat) (I : ZS → Prop) (h : ∀ (P : ZS → Prop) (σ : ZS), I σ → (∀ (τ : ZS), I τ → m τ < m σ → P τ) → F P σ) {σ : ZS} (h0 : I σ) : lfp0 F σ := by
  intro P hP
  have key : ∀ (n : Nat) (σ : ZS), m σ < n → I σ → P σ := by
    intro n
    induction n with
    | zero => intro σ hn; exact absurd hn (Nat.not_lt_zero _)
    | succ n ih => intro σ hn hI; exact hP σ (h P σ hI (fun τ hI' hm => ih τ (by omega) hI'))
  exact key (m σ + 1) σ (Nat.lt_succ_self _) h0
theorem lfp1_ind {F : (Int → ZS → Prop) → Int → ZS → Prop} (m : Int → ZS → Nat) (I : Int → ZS → Prop) (h : ∀ (P : Int → ZS → Prop) (a0 : Int) (σ : ZS), I a0 σ → (∀ (b0 : Int) (τ : ZS), I b0 τ → m b0 τ < m a0 σ → P b0 τ) → F P a0 σ) {a0 : Int} {σ : ZS} (h0 : I a0 σ) : lfp1 F a0 σ := by
  intro P hP
  have key : ∀ (n : Nat) (a0 : Int) (σ : ZS), m a0 σ < n → I a0 σ → P a0 σ := by
    intro n
    induction n with
    | zero => intro a0 σ hn; exact absurd hn (Nat.not_lt_zero _)
    | succ n ih => intro a0 σ hn hI; exact hP a0 σ (h P a0 σ hI (fun b0 τ hI' hm => ih b0 τ (by omega) hI'))
  exact key (m a0 σ + 1) a0 σ (Nat.lt_succ_self _) h0
theorem lfp2_ind {F : (Int → Int → ZS → Prop) → Int → Int → ZS → Prop} (m : Int → Int → ZS → Nat) (I : Int → Int → ZS → Prop) (h : ∀ (P : Int → Int → ZS → Prop) (a0 a1 : Int) (σ : ZS), I a0 a1 σ → (∀ (b0 b1 : Int) (τ : ZS), I b0 b1 τ → m b0 b1 τ < m a0 a1 σ → P b0 b1 τ) → F P a0 a1 σ) {a0 a1 : Int} {σ : ZS} (h0 : I a0 a1 σ) : lfp2 F a0 a1 σ := by
  intro P hP
  have key : ∀ (n : Nat) (a0 a1 : Int) (σ : ZS), m a0 a1 σ < n → I a0 a1 σ → P a0 a1 σ := by
    intro n
    induction n with
    | zero => intro a0 a1 σ hn; exact absurd hn (Nat.not_lt_zero _)
    | succ n ih => intro a0 a1 σ hn hI; exact hP a0 a1 σ (h P a0 a1 σ hI (fun b0 b1 τ hI' hm => ih b0 b1 τ (by omega) hI'))
  exact key (m a0 a1 σ + 1) a0 a1 σ (Nat.lt_succ_self _) h0
theorem lfp4_ind {F : (Int → Int → Int → Int → ZS → Prop) → Int → Int → Int → Int → ZS → Prop} (m : Int → Int → Int → Int → ZS → Nat) (I : Int → Int → Int → Int → ZS → Prop) (h : ∀ (P : Int → Int → Int → Int → ZS → Prop) (a0 a1 a2 a3 : Int) (σ : ZS), I a0 a1 a2 a3 σ → (∀ (b0 b1 b2 b3 : Int) (τ : ZS), I b0 b1 b2 b3 τ → m b0 b1 b2 b3 τ < m a0 a1 a2 a3 σ → P b0 b1 b2 b3 τ) → F P a0 a1 a2 a3 σ) {a0 a1 a2 a3 : Int} {σ : ZS} (h0 : I a0 a1 a2 a3 σ) : lfp4 F a0 a1 a2 a3 σ := by
  intro P hP
  have key : ∀ (n : Nat) (a0 a1 a2 a3 : Int) (σ : ZS), m a0 a1 a2 a3 σ < n → I a0 a1 a2 a3 σ → P a0 a1 a2 a3 σ := by
    intro n
    induction n with
    | zero => intro a0 a1 a2 a3 σ hn; exact absurd hn (Nat.not_lt_zero _)
    | succ n ih => intro a0 a1 a2 a3 σ hn hI; exact hP a0 a1 a2 a3 σ (h P a0 a1 a2 a3 σ hI (fun b0 b1 b2 b3 τ hI' hm => ih b0 b1 b2 b3 τ (by omega) hI'))
  exact key (m a0 a1 a2 a3 σ + 1) a0 a1 a2 a3 σ (Nat.lt_succ_self _) h0
/-- what a step of the reference may change -/
def fr (fs as : List Nat) (σ τ : ZS) : Prop := (∀ f : Nat, f ∉ fs → zI τ 0 f = zI σ 0 f) ∧ (∀ a : Nat, a ∉ as → zA τ 0 a = zA σ 0 a)
theorem fr.rf {fs as : List Nat} {σ : ZS} : fr fs as σ σ := ⟨fun _ _ => rfl, fun _ _ => rfl⟩
theorem fr.tr {fs as : List Nat} {σ τ υ : ZS} (h : fr fs as σ τ) (k : fr fs as τ υ) : fr fs as σ υ := ⟨fun f hf => (k.1 f hf).trans (h.1 f hf), fun a ha => (k.2 a ha).trans (h.2 a ha)⟩
theorem fr.i {fs as : List Nat} {σ : ZS} {f : Nat} {v : Int} (hf : f ∈ fs) : fr fs as σ (zsI σ 0 f v) := ⟨fun f' h => zI_nf (fun e => h (e ▸ hf)), fun _ _ => rfl⟩
theorem fr.a {fs as : List Nat} {σ : ZS} {a : Nat} {i v : Int} (ha : a ∈ as) : fr fs as σ (zsA σ 0 a i v) := ⟨fun _ _ => rfl, fun a' h => zA_nf (fun e => h (e ▸ ha))⟩
theorem fr.ti {fs as : List Nat} {σ τ : ZS} {f : Nat} {v : Int} (h : fr fs as σ τ) (hf : f ∈ fs) : fr fs as σ (zsI τ 0 f v) := h.tr (fr.i hf)
theorem fr.ta {fs as : List Nat} {σ τ : ZS} {a : Nat} {i v : Int} (h : fr fs as σ τ) (ha : a ∈ as) : fr fs as σ (zsA τ 0 a i v) := h.tr (fr.a ha)
theorem fr.up {fs as fs' as' : List Nat} {σ τ : ZS} (h : fr fs as σ τ) (hf : ∀ f ∈ fs, f ∈ fs') (ha : ∀ a ∈ as, a ∈ as') : fr fs' as' σ τ := ⟨fun f k => h.1 f (fun q => k (hf f q)), fun a k => h.2 a (fun q => k (ha a q))⟩
def isRun (p : Int → Prop) (L a s : Int) : Prop := a ≤ s ∧ s ≤ L ∧ (∀ j : Int, a ≤ j → j < s → p j) ∧ (s = L ∨ ¬ p s)
def cL (c : Int) : Prop := 97 ≤ c ∧ c ≤ 122
def cD (c : Int) : Prop := 48 ≤ c ∧ c ≤ 57
def cS (c : Int) : Prop := c = 58 ∨ c = 59 ∨ c = 44 ∨ c = 91 ∨ c = 93 ∨ c = 43 ∨ c = 45 ∨ c = 64
def wv (h : Int → Int) (s : Int) : Nat → Int
  | 0 => 0
  | n + 1 => wv h s n * 256 + h (s + n)
def nv (h : Int → Int) (s : Int) : Nat → Int
  | 0 => h s - 48
  | k + 1 => if nv h s k ≤ 100000 then 10 * nv h s k + h (s + 1 + k) - 48 else nv h s k
def zwT : List Int := [24952, 25464, 25720, 25208, 29552, 25200, 29545, 25705, 25971, 25459, 29555, 25715, 7562599, 123649464756579, 111568023286382, 2003792484, 1652126821, 495806669669, 7171958, 6382692, 28530, 6385252, 7566690, 7892850, 6516080, 6909539, 6579555, 1886745448, 7368560, 7563372, 7563378, 7234919, 7173484, 6580598, 6974832, 27235, 6975075, 27258, 6975098, 27251, 6975091, 1819242352, 1667329132, 426836257894, 7497076, 1919251558, 6909556, 6843508]
def zwords (k : Int) : Int := zwT.getD k.toNat 0
theorem zw_rng {k : Int} (h0 : 0 ≤ k) (h1 : k < 48) : 0 ≤ zwords k ∧ zwords k ≤ 1125899906842624 := by
  have key : ∀ n : Nat, n < 48 → 0 ≤ zwT.getD n 0 ∧ zwT.getD n 0 ≤ 1125899906842624 := by decide
  exact key k.toNat (by omega)
theorem wv_bd {h : Int → Int} {s : Int} : ∀ n : Nat, (∀ j : Int, s ≤ j → j < s + n → 0 ≤ h j ∧ h j < 256) → 0 ≤ wv h s n ∧ wv h s n < (256 : Int) ^ n
  | 0, _ => ⟨Int.le_refl 0, (by decide : (0 : Int) < 256 ^ 0)⟩
  | n + 1, hh => by
    have ih := wv_bd n (fun j h1 h2 => hh j h1 (by omega))
    have hc := hh (s + n) (by omega) (by omega)
    show 0 ≤ wv h s n * 256 + h (s + n) ∧ wv h s n * 256 + h (s + n) < (256 : Int) ^ (n + 1)
    rw [Int.pow_succ]
    omega
theorem nv_bd {h : Int → Int} {s : Int} : ∀ n : Nat, (∀ j : Int, s ≤ j → j < s + 1 + n → 48 ≤ h j ∧ h j ≤ 57) → 0 ≤ nv h s n ∧ nv h s n ≤ 1000009
  | 0, hh => by
    have := hh s (by omega) (by omega)
    show 0 ≤ h s - 48 ∧ h s - 48 ≤ 1000009
    omega
  | n + 1, hh => by
    have ih := nv_bd n (fun j h1 h2 => hh j h1 (by omega))
    have hc := hh (s + 1 + n) (by omega) (by omega)
    show 0 ≤ (if nv h s n ≤ 100000 then 10 * nv h s n + h (s + 1 + n) - 48 else nv h s n) ∧ (if nv h s n ≤ 100000 then 10 * nv h s n + h (s + 1 + n) - 48 else nv h s n) ≤ 1000009
    split <;> omega
theorem zlor_add {w c : Int} (hw : 0 ≤ w ∧ w < 281474976710656) (hc : 0 ≤ c ∧ c < 256) : zlor (w * 256) c = w * 256 + c := by
  unfold zlor
  have e1 : Int64.ofInt (w * 256) = Int64.ofNat (w.toNat * 256) := by
    apply Int64.toInt_inj.mp
    rw [z_tl (by omega), Int64.toInt_ofNat_of_lt (by omega)]
    omega
  have e2 : Int64.ofInt c = Int64.ofNat c.toNat := by
    apply Int64.toInt_inj.mp
    rw [z_tl (by omega), Int64.toInt_ofNat_of_lt (by omega)]
    omega
  have e3 : Int64.ofNat (w.toNat * 256) ||| Int64.ofNat c.toNat = Int64.ofNat (w.toNat * 256 + c.toNat) := by
    apply Int64.toBitVec_inj.mp
    apply BitVec.eq_of_toNat_eq
    rw [Int64.toBitVec_or, BitVec.toNat_or]
    show (BitVec.ofNat 64 _).toNat ||| (BitVec.ofNat 64 _).toNat = (BitVec.ofNat 64 _).toNat
    rw [BitVec.toNat_ofNat, BitVec.toNat_ofNat, BitVec.toNat_ofNat, Nat.mod_eq_of_lt (by omega), Nat.mod_eq_of_lt (by omega), Nat.mod_eq_of_lt (by omega)]
    have := Nat.shiftLeft_add_eq_or_of_lt (b := c.toNat) (i := 8) (by omega) w.toNat
    rw [Nat.shiftLeft_eq] at this
    exact this.symm
  rw [e1, e2, e3, Int64.toInt_ofNat_of_lt (by omega)]
  omega
/-! P: the reference reads a token -/
def Tx (σ : ZS) : Prop := (0 ≤ zI σ 0 2 ∧ zI σ 0 2 ≤ 480) ∧ (∀ j : Int, 0 ≤ j → j < zI σ 0 2 → 32 ≤ zA σ 0 1 j ∧ zA σ 0 1 j ≤ 126) ∧ (∀ k : Int, 0 ≤ k → k < 48 → zA σ 0 11 k = zwords k)
theorem Tx.fr {fs as : List Nat} {σ τ : ZS} (h : Tx σ) (k : fr fs as σ τ) (h2 : 2 ∉ fs) (h1 : 1 ∉ as) (h11 : 11 ∉ as) : Tx τ := by
  unfold Tx
  rw [k.1 2 h2, k.2 1 h1, k.2 11 h11]
  exact h
theorem s_charAt {k : Int} {σ : ZS} {Q : Int → ZS → Prop} (hL : 0 ≤ zI σ 0 2 ∧ zI σ 0 2 ≤ 480) (hk : 0 ≤ k ∧ k ≤ 100000) (h1 : zI σ 0 2 ≤ k → Q 0 σ) (h2 : k < zI σ 0 2 → Q (zA σ 0 1 k) σ) : wpX11_charAt k σ Q := by
  unfold wpX11_charAt wpX11_charAt_18
  exact ⟨by omega, by omega, h1, fun h => ⟨by omega, h2 (by omega)⟩⟩
theorem s_letter {c : Int} {σ : ZS} {Q : Int → ZS → Prop} (hc : -1000000 ≤ c ∧ c ≤ 1000000) (h1 : cL c → Q 1 σ) (h2 : ¬ cL c → Q 0 σ) : wpX11_letter c σ Q := by
  unfold wpX11_letter wpX11_letter_16 wpX11_letter_17
  unfold cL at h1 h2
  exact ⟨by omega, fun h => ⟨by omega, h2 (by omega)⟩, fun h => ⟨fun k => ⟨by omega, h2 (by omega)⟩, fun k => ⟨by omega, h1 (by omega)⟩⟩⟩
theorem s_digit {c : Int} {σ : ZS} {Q : Int → ZS → Prop} (hc : -1000000 ≤ c ∧ c ≤ 1000000) (h1 : cD c → Q 1 σ) (h2 : ¬ cD c → Q 0 σ) : wpX11_digit c σ Q := by
  unfold wpX11_digit wpX11_digit_16 wpX11_digit_17
  unfold cD at h1 h2
  exact ⟨by omega, fun h => ⟨by omega, h2 (by omega)⟩, fun h => ⟨fun k => ⟨by omega, h2 (by omega)⟩, fun k => ⟨by omega, h1 (by omega)⟩⟩⟩
/-- the number of the word among the words, the last one that is it -/
def cdOf (h : Int → Int) (w c : Int) : Prop := (c = -1 ∧ ∀ k : Int, 0 ≤ k → k < 48 → h k ≠ w) ∨ (0 ≤ c ∧ c < 48 ∧ h c = w ∧ ∀ k : Int, c < k → k < 48 → h k ≠ w)
theorem s_next_172 {σ : ZS} {Q : ZS → Prop} (hT : ∀ k : Int, 0 ≤ k → k < 48 → zA σ 0 11 k = zwords k) (hw : 0 ≤ zI σ 0 8 ∧ zI σ 0 8 ≤ 72057594037927936) (h9 : zI σ 0 9 = -1) (hQ : ∀ τ : ZS, fr [9] [] σ τ → cdOf (zA σ 0 11) (zI σ 0 8) (zI τ 0 9) → Q τ) : wpX11_next_172 0 σ Q := by
  unfold wpX11_next_172
  refine lfp1_ind (fun k _ => (48 - k).toNat) (fun k τ => (0 ≤ k ∧ k ≤ 48) ∧ fr [9] [] σ τ ∧ ((zI τ 0 9 = -1 ∧ ∀ j : Int, 0 ≤ j → j < k → zA σ 0 11 j ≠ zI σ 0 8) ∨ (0 ≤ zI τ 0 9 ∧ zI τ 0 9 < k ∧ zA σ 0 11 (zI τ 0 9) = zI σ 0 8 ∧ ∀ j : Int, zI τ 0 9 < j → j < k → zA σ 0 11 j ≠ zI σ 0 8))) ?_ ⟨by omega, fr.rf, Or.inl ⟨h9, fun j a b => by omega⟩⟩
  intro P k τ hI hP
  obtain ⟨hk, hf, hc⟩ := hI
  have e11 : zA τ 0 11 = zA σ 0 11 := hf.2 11 (by decide)
  have e8 : zI τ 0 8 = zI σ 0 8 := hf.1 8 (by decide)
  unfold wpbX11_next_172 wpX11_next_365 wpX11_next_197
  refine ⟨by omega, fun h => hQ τ hf ?_, fun h => ?_⟩
  · have : k = 48 := by omega
    subst this
    rcases hc with hc | hc
    · exact Or.inl hc
    · exact Or.inr hc
  · have hr := zw_rng (k := k) (by omega) (by omega)
    have ht := hT k (by omega) (by omega)
    rw [e11, e8, ht]
    refine ⟨by omega, by omega, by omega, fun hne => hP _ _ ⟨by omega, hf, ?_⟩ (by omega), fun he => hP _ _ ⟨by omega, hf.ti (by decide), Or.inr ?_⟩ (by omega)⟩
    · rcases hc with hc | hc
      · exact Or.inl ⟨hc.1, fun j a b => by
          by_cases e : j = k
          · rw [e, ht]; exact hne
          · exact hc.2 j a (by omega)⟩
      · refine Or.inr ⟨hc.1, by omega, hc.2.2.1, fun j a b => ?_⟩
        by_cases e : j = k
        · rw [e, ht]; exact hne
        · exact hc.2.2.2 j a (by omega)
    · rw [pI, if_pos rfl, if_pos rfl]
      exact ⟨by omega, by omega, ht.trans he, fun j a b => by omega⟩
theorem s_next_221 {σ : ZS} {Q : ZS → Prop} {s : Int} (hT : Tx σ) (hs : 0 ≤ s ∧ s < zI σ 0 2) (h5 : zI σ 0 5 = s + 1) (hd : cD (zA σ 0 1 s)) (h10 : zI σ 0 10 = zA σ 0 1 s - 48) (hQ : ∀ (τ : ZS) (e : Int), fr [5, 7, 10] [] σ τ → isRun (fun j => cD (zA σ 0 1 j)) (zI σ 0 2) (s + 1) e → zI τ 0 5 = e → zI τ 0 10 = nv (zA σ 0 1) s (e - s - 1).toNat → zI τ 0 7 = (if zI τ 0 10 ≤ 65535 then 2 else 9) → Q τ) : wpX11_next_221 σ Q := by
  unfold wpX11_next_221
  refine lfp0_ind (fun τ => (zI σ 0 2 - zI τ 0 5).toNat) (fun τ => fr [5, 7, 10] [] σ τ ∧ (s + 1 ≤ zI τ 0 5 ∧ zI τ 0 5 ≤ zI σ 0 2) ∧ (∀ j : Int, s + 1 ≤ j → j < zI τ 0 5 → cD (zA σ 0 1 j)) ∧ zI τ 0 10 = nv (zA σ 0 1) s (zI τ 0 5 - s - 1).toNat) ?_ ⟨fr.rf, by omega, fun j a b => by omega, by rw [h5, show (s + 1 - s - 1).toNat = 0 by omega]; exact h10⟩
  intro P τ hI hP
  obtain ⟨hf, ha, hr, hn⟩ := hI
  have e2 : zI τ 0 2 = zI σ 0 2 := hf.1 2 (by decide)
  have e1 : zA τ 0 1 = zA σ 0 1 := hf.2 1 (by decide)
  have hb := nv_bd (h := zA σ 0 1) (s := s) (zI τ 0 5 - s - 1).toNat (fun j a b => by
    by_cases e : j = s
    · rw [e]; exact hd
    · exact hr j (by omega) (by omega))
  rw [← hn] at hb
  have hend : (zI σ 0 2 = zI τ 0 5 ∨ ¬ cD (zA σ 0 1 (zI τ 0 5))) → (zI τ 0 10 ≤ 65535 → wpX11_next_305 2 τ Q) ∧ (¬ zI τ 0 10 ≤ 65535 → wpX11_next_305 9 τ Q) := by
    intro hx
    have hrun : isRun (fun j => cD (zA σ 0 1 j)) (zI σ 0 2) (s + 1) (zI τ 0 5) := ⟨by omega, by omega, hr, by
      rcases hx with hx | hx
      · exact Or.inl hx.symm
      · exact Or.inr hx⟩
    unfold wpX11_next_305 wpX11_next_365
    exact ⟨fun h => hQ _ _ (hf.ti (by decide)) hrun rfl hn (by rw [if_pos (show zI (zsI τ 0 7 2) 0 10 ≤ 65535 from h)]; rfl), fun h => hQ _ _ (hf.ti (by decide)) hrun rfl hn (by rw [if_neg (show ¬ zI (zsI τ 0 7 9) 0 10 ≤ 65535 from h)]; rfl)⟩
  unfold wpbX11_next_221
  refine s_charAt (by rw [e2]; exact hT.1) (by have := hT.1; omega) (fun h => ?_) (fun h => ?_)
  · refine s_digit (by omega) (fun h' => absurd h'.1 (by decide)) (fun _ => ⟨by omega, fun _ => ⟨by omega, hend (Or.inl (by omega))⟩, fun q => absurd rfl q⟩)
  · have ht := hT.2.1 (zI τ 0 5) (by omega) (by omega)
    rw [e1]
    refine s_digit (by omega) (fun h' => ⟨by omega, fun q => by omega, fun _ => ⟨by omega, fun h6 => ?_, fun h6 => ?_⟩⟩) (fun h' => ⟨by omega, fun _ => ⟨by omega, hend (Or.inr h')⟩, fun q => absurd rfl q⟩)
    · refine s_charAt (by rw [e2]; exact hT.1) (by have := hT.1; omega) (fun h9 => by omega) (fun h9 => ?_)
      unfold wpX11_next_272
      refine hP _ ⟨(hf.ti (by decide)).ti (by decide), ?_, ?_, ?_⟩ ?_
      · show s + 1 ≤ zI τ 0 5 + 1 ∧ zI τ 0 5 + 1 ≤ zI σ 0 2
        omega
      · intro j a b
        have b' : j < zI τ 0 5 + 1 := b
        by_cases e : j = zI τ 0 5
        · rw [e]; exact h'
        · exact hr j a (by omega)
      · show 10 * zI τ 0 10 + zA τ 0 1 (zI τ 0 5) - 48 = nv (zA σ 0 1) s (zI τ 0 5 + 1 - s - 1).toNat
        rw [show (zI τ 0 5 + 1 - s - 1).toNat = (zI τ 0 5 - s - 1).toNat + 1 by omega]
        show _ = (if nv (zA σ 0 1) s (zI τ 0 5 - s - 1).toNat ≤ 100000 then _ else _)
        rw [← hn, if_pos h6, e1, show s + 1 + ((zI τ 0 5 - s - 1).toNat : Int) = zI τ 0 5 by omega]
      · show (zI σ 0 2 - (zI τ 0 5 + 1)).toNat < (zI σ 0 2 - zI τ 0 5).toNat
        omega
    · unfold wpX11_next_272
      refine hP _ ⟨(hf.ti (by decide)).ti (by decide), ?_, ?_, ?_⟩ ?_
      · show s + 1 ≤ zI τ 0 5 + 1 ∧ zI τ 0 5 + 1 ≤ zI σ 0 2
        omega
      · intro j a b
        have b' : j < zI τ 0 5 + 1 := b
        by_cases e : j = zI τ 0 5
        · rw [e]; exact h'
        · exact hr j a (by omega)
      · show zI τ 0 10 = nv (zA σ 0 1) s (zI τ 0 5 + 1 - s - 1).toNat
        rw [show (zI τ 0 5 + 1 - s - 1).toNat = (zI τ 0 5 - s - 1).toNat + 1 by omega]
        show _ = (if nv (zA σ 0 1) s (zI τ 0 5 - s - 1).toNat ≤ 100000 then _ else _)
        rw [← hn, if_neg h6]
      · show (zI σ 0 2 - (zI τ 0 5 + 1)).toNat < (zI σ 0 2 - zI τ 0 5).toNat
        omega
/-! P: words, and the token as a whole -/
theorem p256 {k n : Nat} (h : k ≤ n) : (256 : Int) ^ k ≤ 256 ^ n := by
  have h2 := Nat.pow_le_pow_right (n := 256) (by decide) h
  have e : ∀ j : Nat, (256 : Int) ^ j = ((256 ^ j : Nat) : Int) := fun j => by rw [Int.natCast_pow]; rfl
  rw [e, e]; exact Int.ofNat_le.mpr h2
theorem s_next_78 {σ : ZS} {Q : ZS → Prop} {s : Int} (hT : Tx σ) (hs : 0 ≤ s ∧ s < zI σ 0 2) (h5 : zI σ 0 5 = s + 1) (hd : cL (zA σ 0 1 s)) (h8 : zI σ 0 8 = zA σ 0 1 s) (hQ : ∀ (τ : ZS) (e : Int), fr [5, 7, 8, 9] [] σ τ → isRun (fun j => cL (zA σ 0 1 j) ∨ cD (zA σ 0 1 j)) (zI σ 0 2) (s + 1) e → zI τ 0 5 = e → zI τ 0 7 = (if e - s ≤ 6 then 1 else 9) → zI τ 0 8 = wv (zA σ 0 1) s (min (e - s) 7).toNat → cdOf (zA σ 0 11) (zI τ 0 8) (zI τ 0 9) → Q τ) : wpX11_next_78 1 σ Q := by
  unfold wpX11_next_78
  have hch : ∀ j : Int, 0 ≤ j → j < zI σ 0 2 → 0 ≤ zA σ 0 1 j ∧ zA σ 0 1 j < 256 := fun j a b => by have := hT.2.1 j a b; omega
  refine lfp1_ind (fun _ τ => (zI σ 0 2 - zI τ 0 5).toNat) (fun n τ => fr [5, 8] [] σ τ ∧ 1 ≤ n ∧ zI τ 0 5 = s + n ∧ s + n ≤ zI σ 0 2 ∧ (∀ j : Int, s + 1 ≤ j → j < s + n → cL (zA σ 0 1 j) ∨ cD (zA σ 0 1 j)) ∧ zI τ 0 8 = wv (zA σ 0 1) s (min n 7).toNat) ?_ ⟨fr.rf, by omega, by omega, by omega, fun j a b => by omega, ?_⟩
  rotate_left
  · show zI σ 0 8 = 0 * 256 + zA σ 0 1 (s + ((0 : Nat) : Int))
    rw [h8, show s + ((0 : Nat) : Int) = s by omega]; omega
  intro P n τ hI hP
  obtain ⟨hf, hn, ha, hle, hr, hw⟩ := hI
  have e2 : zI τ 0 2 = zI σ 0 2 := hf.1 2 (by decide)
  have e1 : zA τ 0 1 = zA σ 0 1 := hf.2 1 (by decide)
  have e11 : zA τ 0 11 = zA σ 0 11 := hf.2 11 (by decide)
  have hL := hT.1
  have hb := wv_bd (h := zA σ 0 1) (s := s) (min n 7).toNat (fun j a b => hch j (by omega) (by omega))
  have hb7 : wv (zA σ 0 1) s (min n 7).toNat < 72057594037927936 := by
    have h7 : (256 : Int) ^ (min n 7).toNat ≤ 256 ^ 7 := by
      have : (min n 7).toNat ≤ 7 := by omega
      exact p256 this
    have : (256 : Int) ^ 7 = 72057594037927936 := by decide
    omega
  have hend : (zI σ 0 2 = s + n ∨ ¬ (cL (zA σ 0 1 (s + n)) ∨ cD (zA σ 0 1 (s + n)))) → (n ≤ 6 → wpX11_next_162 1 τ Q) ∧ (¬ n ≤ 6 → wpX11_next_162 9 τ Q) := by
    intro hx
    have hrun : isRun (fun j => cL (zA σ 0 1 j) ∨ cD (zA σ 0 1 j)) (zI σ 0 2) (s + 1) (s + n) := ⟨by omega, by omega, hr, by
      rcases hx with hx | hx
      · exact Or.inl hx.symm
      · exact Or.inr hx⟩
    have go : ∀ k : Int, k = (if n ≤ 6 then 1 else 9) → wpX11_next_162 k τ Q := by
      intro k hk
      unfold wpX11_next_162
      refine s_next_172 (fun j a b => by
        show zA τ 0 11 j = _
        rw [e11]; exact hT.2.2 j a b) (by
        show 0 ≤ zI τ 0 8 ∧ zI τ 0 8 ≤ _
        rw [hw]; omega) rfl (fun υ hv hc => ?_)
      have hfv : fr [5, 7, 8, 9] [] σ υ := (((hf.up (by decide) (by decide)).ti (by decide)).ti (by decide)).tr (hv.up (by decide) (by decide))
      have c5 : zI υ 0 5 = s + n := (hv.1 5 (by decide)).trans ha
      have c7 : zI υ 0 7 = k := hv.1 7 (by decide)
      have c8 : zI υ 0 8 = zI τ 0 8 := hv.1 8 (by decide)
      refine hQ υ (s + n) hfv hrun c5 ?_ ?_ ?_
      · rw [c7, hk, show s + n - s = n by omega]
      · rw [c8, hw, show s + n - s = n by omega]
      · rw [c8]
        have hc' : cdOf (zA τ 0 11) (zI τ 0 8) (zI υ 0 9) := hc
        rw [e11] at hc'
        exact hc'
    exact ⟨fun h => go 1 (by rw [if_pos h]), fun h => go 9 (by rw [if_neg h])⟩
  have hgo : (cL (zA σ 0 1 (s + n)) ∨ cD (zA σ 0 1 (s + n))) → s + n < zI σ 0 2 → wpX11_next_106 P n τ Q := by
    intro hx hlt
    unfold wpX11_next_106
    refine ⟨by omega, fun h7 => ?_, fun h7 => ?_⟩
    · unfold wpX11_next_133
      refine hP _ _ ⟨hf.ti (by decide), by omega, ?_, by omega, ?_, ?_⟩ ?_
      · show zI τ 0 5 + 1 = s + (n + 1)
        omega
      · intro j a b
        by_cases e : j = s + n
        · rw [e]; exact hx
        · exact hr j a (by omega)
      · show zI τ 0 8 = _
        rw [hw, show (min (n + 1) 7).toNat = (min n 7).toNat by omega]
      · show (zI σ 0 2 - (zI τ 0 5 + 1)).toNat < (zI σ 0 2 - zI τ 0 5).toNat
        omega
    · refine s_charAt (by rw [e2]; exact hL) (by omega) (fun h => by omega) (fun h => ?_)
      have hc := hch (s + n) (by omega) (by omega)
      rw [e1, ha]
      refine ⟨by omega, ?_⟩
      unfold wpX11_next_133
      refine hP _ _ ⟨(hf.ti (by decide)).ti (by decide), by omega, ?_, by omega, ?_, ?_⟩ ?_
      · show zI τ 0 5 + 1 = s + (n + 1)
        omega
      · intro j a b
        by_cases e : j = s + n
        · rw [e]; exact hx
        · exact hr j a (by omega)
      · show zlor (zI τ 0 8 * 256) (zA σ 0 1 (s + n)) = _
        have h6 : wv (zA σ 0 1) s (min n 7).toNat < 281474976710656 := by
          have h7 : (256 : Int) ^ (min n 7).toNat ≤ 256 ^ 6 := by
            have : (min n 7).toNat ≤ 6 := by omega
            exact p256 this
          have : (256 : Int) ^ 6 = 281474976710656 := by decide
          omega
        rw [hw, zlor_add (by omega) hc, show (min (n + 1) 7).toNat = (min n 7).toNat + 1 by omega]
        show _ = wv (zA σ 0 1) s (min n 7).toNat * 256 + zA σ 0 1 (s + (((min n 7).toNat : Nat) : Int))
        rw [show s + (((min n 7).toNat : Nat) : Int) = s + n by omega]
      · show (zI σ 0 2 - (zI τ 0 5 + 1)).toNat < (zI σ 0 2 - zI τ 0 5).toNat
        omega
  unfold wpbX11_next_78
  refine s_charAt (by rw [e2]; exact hL) (by omega) (fun h => ?_) (fun h => ?_)
  · refine s_letter (by omega) (fun h' => absurd h'.1 (by decide)) (fun _ => ⟨by omega, fun q => absurd rfl q, fun _ => ?_⟩)
    refine s_charAt (by rw [e2]; exact hL) (by omega) (fun _ => ?_) (fun _ => by omega)
    exact s_digit (by omega) (fun h' => absurd h'.1 (by decide)) (fun _ => ⟨by omega, fun _ => ⟨by omega, hend (Or.inl (by omega))⟩, fun q => absurd rfl q⟩)
  · have ht := hT.2.1 (s + n) (by omega) (by omega)
    rw [e1, ha]
    refine s_letter (by omega) (fun h' => ⟨by omega, fun _ => hgo (Or.inl h') (by omega), fun q => by omega⟩) (fun hnl => ⟨by omega, fun q => absurd rfl q, fun _ => ?_⟩)
    refine s_charAt (by rw [e2]; exact hL) (by omega) (fun _ => by omega) (fun _ => ?_)
    rw [e1, ha]
    refine s_digit (by omega) (fun h' => ⟨by omega, fun q => by omega, fun _ => hgo (Or.inr h') (by omega)⟩) (fun hnd => ⟨by omega, fun _ => ⟨by omega, hend (Or.inr (fun q => q.elim hnl hnd))⟩, fun q => absurd rfl q⟩)
/-- what reading a token does -/
def nxt (σ τ : ZS) : Prop := fr [5, 6, 7, 8, 9, 10] [] σ τ ∧ ∃ s e : Int, isRun (fun j => zA σ 0 1 j = 32) (zI σ 0 2) (zI σ 0 5) s ∧ zI τ 0 6 = s ∧ zI τ 0 5 = e ∧
  ((s = zI σ 0 2 ∧ e = s ∧ zI τ 0 7 = 0 ∧ zI τ 0 8 = zI σ 0 8 ∧ zI τ 0 9 = zI σ 0 9 ∧ zI τ 0 10 = zI σ 0 10) ∨
   (s < zI σ 0 2 ∧ cL (zA σ 0 1 s) ∧ isRun (fun j => cL (zA σ 0 1 j) ∨ cD (zA σ 0 1 j)) (zI σ 0 2) (s + 1) e ∧ zI τ 0 7 = (if e - s ≤ 6 then 1 else 9) ∧ zI τ 0 8 = wv (zA σ 0 1) s (min (e - s) 7).toNat ∧ cdOf (zA σ 0 11) (zI τ 0 8) (zI τ 0 9) ∧ zI τ 0 10 = zI σ 0 10) ∨
   (s < zI σ 0 2 ∧ cD (zA σ 0 1 s) ∧ isRun (fun j => cD (zA σ 0 1 j)) (zI σ 0 2) (s + 1) e ∧ zI τ 0 10 = nv (zA σ 0 1) s (e - s - 1).toNat ∧ zI τ 0 7 = (if zI τ 0 10 ≤ 65535 then 2 else 9) ∧ zI τ 0 8 = zI σ 0 8 ∧ zI τ 0 9 = zI σ 0 9) ∨
   (s < zI σ 0 2 ∧ ¬ cL (zA σ 0 1 s) ∧ ¬ cD (zA σ 0 1 s) ∧ e = s + 1 ∧ ((cS (zA σ 0 1 s) ∧ zI τ 0 7 = zA σ 0 1 s) ∨ (¬ cS (zA σ 0 1 s) ∧ zI τ 0 7 = 9)) ∧ zI τ 0 8 = zI σ 0 8 ∧ zI τ 0 9 = zI σ 0 9 ∧ zI τ 0 10 = zI σ 0 10))
theorem s_next {σ : ZS} {Q : ZS → Prop} (hT : Tx σ) (h5 : 0 ≤ zI σ 0 5 ∧ zI σ 0 5 ≤ zI σ 0 2) (hQ : ∀ τ : ZS, nxt σ τ → Q τ) : wpX11_next σ Q := by
  unfold wpX11_next wpX11_next_0
  refine lfp0_ind (fun τ => (zI σ 0 2 - zI τ 0 5).toNat) (fun τ => fr [5] [] σ τ ∧ zI σ 0 5 ≤ zI τ 0 5 ∧ zI τ 0 5 ≤ zI σ 0 2 ∧ ∀ j : Int, zI σ 0 5 ≤ j → j < zI τ 0 5 → zA σ 0 1 j = 32) ?_ ⟨fr.rf, by omega, by omega, fun j a b => by omega⟩
  intro P τ hI hP
  obtain ⟨hf, ha, hle, hr⟩ := hI
  have e2 : zI τ 0 2 = zI σ 0 2 := hf.1 2 (by decide)
  have e1 : zA τ 0 1 = zA σ 0 1 := hf.2 1 (by decide)
  have e8 : zI τ 0 8 = zI σ 0 8 := hf.1 8 (by decide)
  have e9 : zI τ 0 9 = zI σ 0 9 := hf.1 9 (by decide)
  have e10 : zI τ 0 10 = zI σ 0 10 := hf.1 10 (by decide)
  have hTt : Tx τ := hT.fr hf (by decide) (by decide) (by decide)
  have hL := hT.1
  have hff : fr [5, 6, 7, 8, 9, 10] [] σ τ := hf.up (by decide) (by decide)
  unfold wpbX11_next_0
  refine s_charAt (by rw [e2]; exact hL) (by omega) (fun h => ?_) (fun h => ?_)
  · refine ⟨by omega, fun _ => ?_, fun q => absurd q (by decide)⟩
    refine s_charAt (by show 0 ≤ zI τ 0 2 ∧ zI τ 0 2 ≤ 480; rw [e2]; exact hL) (by omega) (fun _ => ⟨by omega, fun q => absurd rfl q, fun _ => ?_⟩) (fun q => by have q' : zI τ 0 5 < zI τ 0 2 := q; omega)
    refine hQ _ ⟨(hff.ti (by decide)).ti (by decide), zI τ 0 5, zI τ 0 5, ⟨ha, hle, hr, Or.inl (by omega)⟩, rfl, rfl, Or.inl ⟨by omega, rfl, rfl, e8, e9, e10⟩⟩
  · have ht := hT.2.1 (zI τ 0 5) (by omega) (by omega)
    rw [e1]
    refine ⟨by omega, fun hns => ?_, fun hsp => ?_⟩
    rotate_left
    · refine hP _ ⟨hf.ti (by decide), ?_, ?_, ?_⟩ ?_
      · show zI σ 0 5 ≤ zI τ 0 5 + 1
        omega
      · show zI τ 0 5 + 1 ≤ zI σ 0 2
        omega
      · intro j a b
        have b' : j < zI τ 0 5 + 1 := b
        by_cases e : j = zI τ 0 5
        · rw [e]; exact hsp
        · exact hr j a (by omega)
      · show (zI σ 0 2 - (zI τ 0 5 + 1)).toNat < (zI σ 0 2 - zI τ 0 5).toNat
        omega
    have hrun : isRun (fun j => zA σ 0 1 j = 32) (zI σ 0 2) (zI σ 0 5) (zI τ 0 5) := ⟨ha, hle, hr, Or.inr hns⟩
    refine s_charAt (by show 0 ≤ zI τ 0 2 ∧ zI τ 0 2 ≤ 480; rw [e2]; exact hL) (by omega) (fun q => by have q' : zI τ 0 2 ≤ zI τ 0 5 := q; omega) (fun _ => ?_)
    show _ ∧ _
    have ec : zA (zsI τ 0 6 (zI τ 0 5)) 0 1 (zI τ 0 5) = zA σ 0 1 (zI τ 0 5) := by show zA τ 0 1 _ = _; rw [e1]
    rw [ec]
    refine ⟨by omega, fun _ => ?_, fun q => by omega⟩
    refine s_letter (by omega) (fun hl => ⟨by omega, fun q => by omega, fun _ => ?_⟩) (fun hnl => ⟨by omega, fun _ => ?_, fun q => absurd rfl q⟩)
    · refine s_next_78 (s := zI τ 0 5) (by
          refine hTt.fr (fs := [5, 6, 7, 8]) (as := []) ?_ (by decide) (by decide) (by decide)
          exact ((((fr.rf.ti (by decide)).ti (by decide)).ti (by decide)).ti (by decide))) (by show 0 ≤ zI τ 0 5 ∧ zI τ 0 5 < zI τ 0 2; omega) rfl (by show cL (zA τ 0 1 _); rw [e1]; exact hl) (by show zA σ 0 1 _ = zA τ 0 1 _; rw [e1]) ?_
      intro υ e hv hrv c5 c7 c8 cc
      have hv1 : zA (zsI (zsI (zsI (zsI τ 0 6 (zI τ 0 5)) 0 7 (zA σ 0 1 (zI τ 0 5))) 0 5 (zI (zsI τ 0 6 (zI τ 0 5)) 0 5 + 1)) 0 8 (zA σ 0 1 (zI τ 0 5))) 0 1 = zA σ 0 1 := e1
      have hv2 : zI (zsI (zsI (zsI (zsI τ 0 6 (zI τ 0 5)) 0 7 (zA σ 0 1 (zI τ 0 5))) 0 5 (zI (zsI τ 0 6 (zI τ 0 5)) 0 5 + 1)) 0 8 (zA σ 0 1 (zI τ 0 5))) 0 2 = zI σ 0 2 := e2
      have hv11 : zA (zsI (zsI (zsI (zsI τ 0 6 (zI τ 0 5)) 0 7 (zA σ 0 1 (zI τ 0 5))) 0 5 (zI (zsI τ 0 6 (zI τ 0 5)) 0 5 + 1)) 0 8 (zA σ 0 1 (zI τ 0 5))) 0 11 = zA σ 0 11 := hf.2 11 (by decide)
      rw [hv1, hv2] at hrv
      rw [hv1] at c8
      rw [hv11] at cc
      refine hQ υ ⟨((((hff.ti (by decide)).ti (by decide)).ti (by decide)).ti (by decide)).tr (hv.up (by decide) (by decide)), zI τ 0 5, e, hrun, hv.1 6 (by decide), c5, Or.inr (Or.inl ⟨by omega, hl, hrv, c7, c8, cc, (hv.1 10 (by decide)).trans e10⟩)⟩
    · refine s_digit (by omega) (fun hd => ⟨by omega, fun q => by omega, fun _ => ?_⟩) (fun hnd => ⟨by omega, fun _ => ?_, fun q => absurd rfl q⟩)
      · refine s_next_221 (s := zI τ 0 5) (by
            refine hTt.fr (fs := [5, 6, 7, 10]) (as := []) ?_ (by decide) (by decide) (by decide)
            exact ((((fr.rf.ti (by decide)).ti (by decide)).ti (by decide)).ti (by decide))) (by show 0 ≤ zI τ 0 5 ∧ zI τ 0 5 < zI τ 0 2; omega) rfl (by show cD (zA τ 0 1 _); rw [e1]; exact hd) (by show zA σ 0 1 _ - 48 = zA τ 0 1 _ - 48; rw [e1]) ?_
        intro υ e hv hrv c5 c10 c7
        have hv1 : zA (zsI (zsI (zsI (zsI τ 0 6 (zI τ 0 5)) 0 7 (zA σ 0 1 (zI τ 0 5))) 0 5 (zI (zsI τ 0 6 (zI τ 0 5)) 0 5 + 1)) 0 10 (zA σ 0 1 (zI τ 0 5) - 48)) 0 1 = zA σ 0 1 := e1
        have hv2 : zI (zsI (zsI (zsI (zsI τ 0 6 (zI τ 0 5)) 0 7 (zA σ 0 1 (zI τ 0 5))) 0 5 (zI (zsI τ 0 6 (zI τ 0 5)) 0 5 + 1)) 0 10 (zA σ 0 1 (zI τ 0 5) - 48)) 0 2 = zI σ 0 2 := e2
        rw [hv1, hv2] at hrv
        rw [hv1] at c10
        refine hQ υ ⟨((((hff.ti (by decide)).ti (by decide)).ti (by decide)).ti (by decide)).tr (hv.up (by decide) (by decide)), zI τ 0 5, e, hrun, hv.1 6 (by decide), c5, Or.inr (Or.inr (Or.inl ⟨by omega, hd, hrv, c10, c7, (hv.1 8 (by decide)).trans e8, (hv.1 9 (by decide)).trans e9⟩))⟩
      · have fin : ∀ k : Int, ((cS (zA σ 0 1 (zI τ 0 5)) ∧ k = zA σ 0 1 (zI τ 0 5)) ∨ (¬ cS (zA σ 0 1 (zI τ 0 5)) ∧ k = 9)) → ∀ υ : ZS, fr [5, 6, 7, 8, 9, 10] [] σ υ → zI υ 0 6 = zI τ 0 5 → zI υ 0 5 = zI τ 0 5 + 1 → zI υ 0 7 = k → zI υ 0 8 = zI σ 0 8 → zI υ 0 9 = zI σ 0 9 → zI υ 0 10 = zI σ 0 10 → Q υ := by
          intro k hk υ hv q6 q5 q7 q8 q9 q10
          rw [← q7] at hk
          exact hQ υ ⟨hv, zI τ 0 5, zI τ 0 5 + 1, hrun, q6, q5, Or.inr (Or.inr (Or.inr ⟨by omega, hnl, hnd, rfl, hk, q8, q9, q10⟩))⟩
        unfold wpX11_next_365
        have hf3 : fr [5, 6, 7, 8, 9, 10] [] σ (zsI (zsI (zsI τ 0 6 (zI τ 0 5)) 0 7 (zA σ 0 1 (zI τ 0 5))) 0 5 (zI (zsI τ 0 6 (zI τ 0 5)) 0 5 + 1)) := ((hff.ti (by decide)).ti (by decide)).ti (by decide)
        have sg : cS (zA σ 0 1 (zI τ 0 5)) → Q (zsI (zsI (zsI τ 0 6 (zI τ 0 5)) 0 7 (zA σ 0 1 (zI τ 0 5))) 0 5 (zI (zsI τ 0 6 (zI τ 0 5)) 0 5 + 1)) := fun hc => fin _ (Or.inl ⟨hc, rfl⟩) _ hf3 rfl rfl rfl e8 e9 e10
        refine ⟨fun h1 => sg (Or.inl h1), fun n1 => ⟨fun h1 => sg (Or.inr (Or.inl h1)), fun n2 => ⟨fun h1 => sg (Or.inr (Or.inr (Or.inl h1))), fun n3 => ⟨fun h1 => sg (Or.inr (Or.inr (Or.inr (Or.inl h1)))), fun n4 => ⟨fun h1 => sg (Or.inr (Or.inr (Or.inr (Or.inr (Or.inl h1))))), fun n5 => ⟨fun h1 => sg (Or.inr (Or.inr (Or.inr (Or.inr (Or.inr (Or.inl h1)))))), fun n6 => ⟨fun h1 => sg (Or.inr (Or.inr (Or.inr (Or.inr (Or.inr (Or.inr (Or.inl h1))))))), fun n7 => ⟨fun h1 => sg (Or.inr (Or.inr (Or.inr (Or.inr (Or.inr (Or.inr (Or.inr h1))))))), fun n8 => ?_⟩⟩⟩⟩⟩⟩⟩⟩
        refine fin 9 (Or.inr ⟨?_, rfl⟩) _ (hf3.ti (by decide)) rfl rfl rfl e8 e9 e10
        unfold cS
        omega
/-! P: what holds while the reference parses (safety) -/
def cntP (h : Int → Int) : Nat → Int
  | 0 => 0
  | n + 1 => cntP h n + (if h n = 0 then 1 else 0)
theorem cntP_zu {h : Int → Int} {i v : Int} : ∀ n : Nat, (n : Int) ≤ i → cntP (zu h i v) n = cntP h n
  | 0, _ => rfl
  | n + 1, hn => by
    show cntP (zu h i v) n + (if zu h i v n = 0 then 1 else 0) = cntP h n + (if h n = 0 then 1 else 0)
    rw [cntP_zu n (by omega), pu_ne (by omega)]
theorem cntP_le {h : Int → Int} : ∀ n : Nat, 0 ≤ cntP h n ∧ cntP h n ≤ n
  | 0 => ⟨Int.le_refl 0, Int.le_refl 0⟩
  | n + 1 => by
    have := cntP_le (h := h) n
    show 0 ≤ cntP h n + (if h n = 0 then 1 else 0) ∧ cntP h n + (if h n = 0 then 1 else 0) ≤ ((n + 1 : Nat) : Int)
    split <;> omega
/-- the numbers -/
def GL (σ : ZS) : Prop := (0 ≤ zI σ 0 2 ∧ zI σ 0 2 ≤ 480) ∧ (0 ≤ zI σ 0 6 ∧ zI σ 0 6 ≤ zI σ 0 5 ∧ zI σ 0 5 ≤ zI σ 0 2) ∧ (0 ≤ zI σ 0 7 ∧ zI σ 0 7 ≤ 126) ∧ (-1 ≤ zI σ 0 9 ∧ zI σ 0 9 ≤ 47) ∧ (0 ≤ zI σ 0 10 ∧ zI σ 0 10 ≤ 1000009) ∧ (0 ≤ zI σ 0 8 ∧ zI σ 0 8 ≤ 72057594037927936) ∧ (0 ≤ zI σ 0 17 ∧ 2 * zI σ 0 17 ≤ zI σ 0 5 + 1) ∧ (0 ≤ zI σ 0 23 ∧ zI σ 0 23 ≤ zI σ 0 5) ∧ (0 ≤ zI σ 0 31 ∧ zI σ 0 31 ≤ 2 * zI σ 0 6 + 8) ∧ (0 ≤ zI σ 0 34 ∧ 6 * zI σ 0 34 ≤ zI σ 0 5) ∧ (0 ≤ zI σ 0 33 ∧ zI σ 0 33 ≤ 1) ∧ (-1 ≤ zI σ 0 32 ∧ zI σ 0 32 < zI σ 0 34) ∧ (-1 ≤ zI σ 0 18 ∧ zI σ 0 18 ≤ 480) ∧ (0 ≤ zI σ 0 37 ∧ zI σ 0 37 ≤ 5) ∧ (-100 ≤ zI σ 0 38 ∧ zI σ 0 38 ≤ 1000009) ∧ (-1 ≤ zI σ 0 39 ∧ zI σ 0 39 < 240) ∧ (-1 ≤ zI σ 0 41 ∧ zI σ 0 41 ≤ 47) ∧ (-1 ≤ zI σ 0 42 ∧ zI σ 0 42 ≤ 47) ∧ 7 * cntP (zA σ 0 19) (zI σ 0 23).toNat ≤ zI σ 0 5
/-- the token -/
def Gk (σ : ZS) : Prop := (zI σ 0 7 = 0 → zI σ 0 6 = zI σ 0 2) ∧ (zI σ 0 7 ≠ 0 → zI σ 0 6 < zI σ 0 5) ∧ (zI σ 0 7 = 1 → zI σ 0 9 = 12 → zI σ 0 6 + 3 ≤ zI σ 0 5) ∧ (zI σ 0 7 = 1 → zI σ 0 9 = 13 → zI σ 0 6 + 6 ≤ zI σ 0 5) ∧ (zI σ 0 7 = 1 → zI σ 0 5 = zI σ 0 2 ∨ ¬ (cL (zA σ 0 1 (zI σ 0 5)) ∨ cD (zA σ 0 1 (zI σ 0 5))))
def Gn (σ : ZS) : Prop := (zI σ 0 7 ≠ 0 → zI σ 0 7 ≠ 1 → 2 * zI σ 0 17 ≤ zI σ 0 5)
def Gw (σ : ZS) : Prop := (zI σ 0 18 < 0 → zI σ 0 17 ≤ 24) ∧ (zI σ 0 18 < 0 → zI σ 0 33 = 1 → 0 ≤ zI σ 0 32)
def hasUse (σ : ZS) (n : Int) : Prop := ∃ u : Int, 0 ≤ u ∧ u < zI σ 0 23 ∧ zA σ 0 20 u = n ∧ (zA σ 0 19 u = 1 ∨ zA σ 0 19 u = 4)
def G1 (σ : ZS) : Prop := ∀ n : Int, 0 ≤ n → n < 240 → (0 ≤ zA σ 0 13 n ∧ zA σ 0 13 n ≤ 3) ∧ (-1 ≤ zA σ 0 14 n ∧ zA σ 0 14 n < 80) ∧ (0 ≤ zA σ 0 15 n ∧ zA σ 0 15 n ≤ 16) ∧ (0 ≤ zA σ 0 12 n ∧ zA σ 0 12 n ≤ 72057594037927936)
def G2 (σ : ZS) : Prop := ∀ u : Int, 0 ≤ u → u < 480 → (0 ≤ zA σ 0 19 u ∧ zA σ 0 19 u ≤ 4) ∧ (0 ≤ zA σ 0 20 u ∧ zA σ 0 20 u < 240) ∧ (0 ≤ zA σ 0 21 u ∧ zA σ 0 21 u ≤ 480) ∧ (-1 ≤ zA σ 0 22 u ∧ zA σ 0 22 u < 80)
def G3 (σ : ZS) : Prop := ∀ p : Int, 0 ≤ p → p < 1200 → (0 ≤ zA σ 0 24 p ∧ zA σ 0 24 p ≤ 8) ∧ (2 ≤ zA σ 0 24 p → zA σ 0 24 p ≤ 7 → 0 ≤ zA σ 0 25 p ∧ zA σ 0 25 p < 240) ∧ (zA σ 0 24 p = 8 → 0 ≤ zA σ 0 25 p ∧ zA σ 0 25 p ≤ 64) ∧ (-20000000 ≤ zA σ 0 25 p ∧ zA σ 0 25 p ≤ 20000000) ∧ (-20000000 ≤ zA σ 0 26 p ∧ zA σ 0 26 p ≤ 20000000) ∧ (0 ≤ zA σ 0 27 p ∧ zA σ 0 27 p ≤ 480) ∧ (-1 ≤ zA σ 0 28 p ∧ zA σ 0 28 p < 80) ∧ (0 ≤ zA σ 0 30 p ∧ zA σ 0 30 p ≤ 1)
def G4 (σ : ZS) : Prop := (∀ s : Int, 0 ≤ s → s < 80 → 0 ≤ zA σ 0 35 s ∧ zA σ 0 35 s < 240) ∧ (∀ s : Int, 0 ≤ s → s < zI σ 0 34 → zA σ 0 35 s < zI σ 0 17 ∧ zA σ 0 13 (zA σ 0 35 s) = 1 ∧ zA σ 0 14 (zA σ 0 35 s) = s ∧ 1 ≤ zA σ 0 15 (zA σ 0 35 s)) ∧ (∀ n : Int, 0 ≤ n → n < zI σ 0 17 → (zA σ 0 13 n = 1 → 0 ≤ zA σ 0 14 n ∧ zA σ 0 14 n < zI σ 0 34) ∧ (zA σ 0 13 n = 2 → zA σ 0 14 n = -1 ∨ zA σ 0 14 n < zI σ 0 34))
def G5 (σ : ZS) : Prop := (∀ u : Int, 0 ≤ u → u < zI σ 0 23 → zA σ 0 20 u < zI σ 0 17) ∧ (∀ p : Int, 0 ≤ p → p < zI σ 0 31 → zA σ 0 24 p = 2 ∨ zA σ 0 24 p = 3 → hasUse σ (zA σ 0 25 p))
def G6 (σ : ZS) : Prop := zI σ 0 18 < 0 → (∀ p : Int, 0 ≤ p → p < zI σ 0 31 → 0 ≤ zA σ 0 28 p ∧ zA σ 0 28 p < zI σ 0 34) ∧ (∀ n : Int, 0 ≤ n → n < zI σ 0 17 → zA σ 0 13 n = 2 → 0 ≤ zA σ 0 14 n)
def GA (σ : ZS) : Prop := G1 σ ∧ G2 σ ∧ G3 σ ∧ G4 σ ∧ G5 σ ∧ G6 σ
def GG (σ : ZS) : Prop := Tx σ ∧ GL σ ∧ Gk σ ∧ Gn σ ∧ Gw σ ∧ GA σ
abbrev PF : List Nat := [3, 4, 5, 6, 7, 8, 9, 10, 17, 18, 23, 31, 32, 33, 34, 37, 38, 39, 40, 41, 42]
abbrev PA : List Nat := [12, 13, 14, 15, 19, 20, 21, 22, 24, 25, 26, 27, 28, 30, 35]
/-- how the parse goes on -/
def PR (σ τ : ZS) : Prop := fr PF PA σ τ ∧ zI σ 0 6 ≤ zI τ 0 6 ∧ zI σ 0 5 ≤ zI τ 0 5 ∧ zI σ 0 23 ≤ zI τ 0 23 ∧ (∀ u : Int, 0 ≤ u → u < zI σ 0 23 → zA τ 0 20 u = zA σ 0 20 u ∧ zA τ 0 19 u = zA σ 0 19 u) ∧ (0 ≤ zI σ 0 18 → 0 ≤ zI τ 0 18) ∧ zI σ 0 17 ≤ zI τ 0 17 ∧ zI σ 0 33 ≤ zI τ 0 33
theorem PR.rf {σ : ZS} : PR σ σ := ⟨fr.rf, Int.le_refl _, Int.le_refl _, Int.le_refl _, fun _ _ _ => ⟨rfl, rfl⟩, fun h => h, Int.le_refl _, Int.le_refl _⟩
theorem PR.tr {σ τ υ : ZS} (h : PR σ τ) (k : PR τ υ) : PR σ υ := by
  obtain ⟨h1, h2, h3, h4, h5, h6, h7, h8⟩ := h
  obtain ⟨k1, k2, k3, k4, k5, k6, k7, k8⟩ := k
  exact ⟨h1.tr k1, by omega, by omega, by omega, fun u a b => ⟨(k5 u a (by omega)).1.trans (h5 u a b).1, (k5 u a (by omega)).2.trans (h5 u a b).2⟩, fun q => k6 (h6 q), by omega, by omega⟩
theorem PR.hasUse {σ τ : ZS} {n : Int} (h : PR σ τ) (k : hasUse σ n) : hasUse τ n := by
  obtain ⟨u, h1, h2, h3, h4⟩ := k
  obtain ⟨-, -, -, q4, q5, -⟩ := h
  exact ⟨u, h1, by omega, (q5 u h1 h2).1.trans h3, by rw [(q5 u h1 h2).2]; exact h4⟩
/-- a token not yet named or used -/
def Fresh (σ : ZS) : Prop := zI σ 0 7 = 1 → 2 * zI σ 0 17 ≤ zI σ 0 6 ∧ zI σ 0 23 ≤ zI σ 0 6
theorem fr.gA {σ τ : ZS} (h : fr [5, 6, 7, 8, 9, 10] [] σ τ) (k : GA σ) : GA τ := by
  have i17 := h.1 17 (by decide); have i18 := h.1 18 (by decide); have i23 := h.1 23 (by decide); have i31 := h.1 31 (by decide); have i34 := h.1 34 (by decide)
  have a : ∀ j : Nat, zA τ 0 j = zA σ 0 j := fun j => h.2 j (by simp)
  unfold GA G1 G2 G3 G4 G5 G6 hasUse
  simp only [a, i17, i18, i23, i31, i34]
  exact k
theorem wv_len {h : Int → Int} {s w : Int} {n : Nat} (k : Nat) (hb : ∀ j : Int, s ≤ j → j < s + n → 0 ≤ h j ∧ h j < 256) (e : w = wv h s n) (hw : (256 : Int) ^ k ≤ w) : k < n := by
  have h1 := (wv_bd n hb).2
  rcases Nat.lt_or_ge k n with h2 | h2
  · exact h2
  · have := p256 h2
    omega
theorem s_nextG {σ : ZS} {Q : ZS → Prop} (hG : GG σ) (hQ : ∀ τ : ZS, GG τ → PR σ τ → fr [5, 6, 7, 8, 9, 10] [] σ τ → nxt σ τ → zI σ 0 5 ≤ zI τ 0 6 → (zI σ 0 7 = 1 → zI τ 0 7 = 1 ∨ zI τ 0 7 = 2 → zI σ 0 5 + 1 ≤ zI τ 0 6) → Fresh τ → Q τ) : wpX11_next σ Q := by
  obtain ⟨hT, hL, hk, hn9, hw, hA⟩ := hG
  have hL0 := hL
  unfold GL at hL
  obtain ⟨l1, l2, l3, l4, l5, l6, l7, l8, l9, l10, l11, l12, l13, l14, l15, l16, l17, l18, l19⟩ := hL
  refine s_next hT (by omega) (fun τ hn => ?_)
  have hn0 := hn
  obtain ⟨hf, s, e, hrun, q6, q5, hcase⟩ := hn
  have e2 := hf.1 2 (by decide); have e17 := hf.1 17 (by decide); have e18 := hf.1 18 (by decide); have e23 := hf.1 23 (by decide); have e31 := hf.1 31 (by decide); have e32 := hf.1 32 (by decide); have e33 := hf.1 33 (by decide); have e34 := hf.1 34 (by decide)
  have e37 := hf.1 37 (by decide); have e38 := hf.1 38 (by decide); have e39 := hf.1 39 (by decide); have e41 := hf.1 41 (by decide); have e42 := hf.1 42 (by decide)
  have a1 : zA τ 0 1 = zA σ 0 1 := hf.2 1 (by decide)
  have a19 : zA τ 0 19 = zA σ 0 19 := hf.2 19 (by decide)
  have a20 : zA τ 0 20 = zA σ 0 20 := hf.2 20 (by decide)
  have hTt : Tx τ := hT.fr hf (by decide) (by decide) (by decide)
  obtain ⟨r1, r2, r3, r4⟩ := hrun
  have hch : ∀ j : Int, 0 ≤ j → j < zI σ 0 2 → 0 ≤ zA σ 0 1 j ∧ zA σ 0 1 j < 256 := fun j a b => by have := hT.2.1 j a b; omega
  have sep : zI σ 0 7 = 1 → (s < zI σ 0 2 ∧ (cL (zA σ 0 1 s) ∨ cD (zA σ 0 1 s))) → zI σ 0 5 + 1 ≤ s := by
    intro t1 t2
    rcases hk.2.2.2.2 t1 with h | h
    · omega
    · by_cases q : s = zI σ 0 5
      · rw [q] at t2; exact absurd t2.2 h
      · omega
  have key : (s ≤ e ∧ e ≤ zI σ 0 2) ∧ (0 ≤ zI τ 0 7 ∧ zI τ 0 7 ≤ 126) ∧ (zI τ 0 7 = 0 → s = zI σ 0 2) ∧ (zI τ 0 7 ≠ 0 → s < e) ∧ (-1 ≤ zI τ 0 9 ∧ zI τ 0 9 ≤ 47) ∧ (zI τ 0 7 = 1 → zI τ 0 9 = 12 → s + 3 ≤ e) ∧ (zI τ 0 7 = 1 → zI τ 0 9 = 13 → s + 6 ≤ e) ∧ (0 ≤ zI τ 0 10 ∧ zI τ 0 10 ≤ 1000009) ∧ (0 ≤ zI τ 0 8 ∧ zI τ 0 8 ≤ 72057594037927936) ∧ (zI τ 0 7 = 1 → e = zI σ 0 2 ∨ ¬ (cL (zA σ 0 1 e) ∨ cD (zA σ 0 1 e))) ∧ (zI τ 0 7 = 1 ∨ zI τ 0 7 = 2 → s < zI σ 0 2 ∧ (cL (zA σ 0 1 s) ∨ cD (zA σ 0 1 s))) := by
    rcases hcase with ⟨c1, c2, c3, c4, c5, c6⟩ | ⟨c1, c2, c3, c4, c5, c6, c7⟩ | ⟨c1, c2, c3, c4, c5, c6, c7⟩ | ⟨c1, c2, c3, c4, c5, c6, c7, c8⟩
    · exact ⟨by omega, by omega, by omega, by omega, by omega, by omega, by omega, by omega, by omega, by omega, by omega⟩
    · obtain ⟨d1, d2, d3, d4⟩ := c3
      have hb := wv_bd (h := zA σ 0 1) (s := s) (min (e - s) 7).toNat (fun j a b => hch j (by omega) (by omega))
      have h7 : (256 : Int) ^ (min (e - s) 7).toNat ≤ 256 ^ 7 := p256 (by omega)
      have h77 : (256 : Int) ^ 7 = 72057594037927936 := by decide
      have hcode : -1 ≤ zI τ 0 9 ∧ zI τ 0 9 ≤ 47 := by
        rcases c6 with c6 | c6
        · have := c6.1; omega
        · have := c6.1; have := c6.2.1; omega
      have hlen : ∀ (k : Nat) (c : Int), zI τ 0 9 = c → 0 ≤ c → c < 48 → (256 : Int) ^ k ≤ zwords c → k < (min (e - s) 7).toNat := by
        intro k c k1 k2 k3 k4
        refine wv_len (h := zA σ 0 1) (s := s) (w := zI τ 0 8) k (fun j a b => hch j (by omega) (by omega)) c5 ?_
        rcases c6 with c6 | c6
        · have := c6.1; omega
        · have := c6.2.2.1
          rw [k1, hT.2.2 c k2 k3] at this
          omega
      refine ⟨by omega, by rw [c4]; split <;> omega, fun h => by rw [c4] at h; split at h <;> omega, fun _ => by omega, hcode, fun t1 t2 => ?_, fun t1 t2 => ?_, by omega, by rw [c5]; omega, fun _ => d4, fun _ => ⟨c1, Or.inl c2⟩⟩
      · have := hlen 2 12 t2 (by decide) (by decide) (by decide)
        omega
      · have := hlen 5 13 t2 (by decide) (by decide) (by decide)
        omega
    · obtain ⟨d1, d2, d3, d4⟩ := c3
      have hb := nv_bd (h := zA σ 0 1) (s := s) (e - s - 1).toNat (fun j a b => by
        by_cases q : j = s
        · rw [q]; exact c2
        · exact d3 j (by omega) (by omega))
      rw [← c4] at hb
      have t7 : zI τ 0 7 = 2 ∨ zI τ 0 7 = 9 := by
        rw [c5]; split
        · exact Or.inl rfl
        · exact Or.inr rfl
      clear d3 d4 c5
      exact ⟨by omega, by omega, by omega, by omega, by omega, by omega, by omega, by omega, by omega, by omega, fun _ => ⟨c1, Or.inr c2⟩⟩
    · have ht := hT.2.1 s (by omega) c1
      have t7 : zI τ 0 7 ≠ 0 ∧ zI τ 0 7 ≠ 1 ∧ zI τ 0 7 ≠ 2 ∧ 0 ≤ zI τ 0 7 ∧ zI τ 0 7 ≤ 126 := by
        rcases c5 with c5 | c5
        · have k1 := c5.1; have k2 := c5.2; unfold cS at k1; omega
        · have k2 := c5.2; omega
      clear c2 c3 c5
      exact ⟨by omega, by omega, by omega, by omega, by omega, by omega, by omega, by omega, by omega, by omega, by omega⟩
  clear hcase
  obtain ⟨k1, k2, k3, k4, k5, k6, k7, k8, k9, k10, k11⟩ := key
  have hsep : zI σ 0 7 = 1 → zI τ 0 7 = 1 ∨ zI τ 0 7 = 2 → zI σ 0 5 + 1 ≤ zI τ 0 6 := fun t1 t2 => by rw [q6]; exact sep t1 (k11 t2)
  have hz : zI σ 0 7 = 0 → zI τ 0 7 ≠ 1 := by
    intro t0 t1
    have := (k11 (Or.inl t1)).1
    have := hk.1 t0
    omega
  have hc : 7 * cntP (zA τ 0 19) (zI τ 0 23).toNat ≤ zI τ 0 5 := by rw [a19, e23]; omega
  have hLt : GL τ := by
    unfold GL
    clear k3 k4 k6 k7 k10 k11 hsep hz
    exact ⟨by omega, by omega, by omega, by omega, by omega, by omega, by omega, by omega, by omega, by omega, by omega, by omega, by omega, by omega, by omega, by omega, by omega, by omega, hc⟩
  have hs5 : zI σ 0 5 ≤ zI τ 0 6 := by omega
  refine hQ τ ⟨hTt, hLt, ⟨fun t => ?_, fun t => ?_, fun t1 t2 => ?_, fun t1 t2 => ?_, fun t1 => ?_⟩, fun t0 t1 => ?_, ?_, hf.gA hA⟩ ⟨hf.up (by decide) (by decide), by omega, by omega, by omega, fun u _ _ => ⟨by rw [a20], by rw [a19]⟩, by omega, by omega, by omega⟩ hf hn0 hs5 hsep ?_
  · have := k3 t; omega
  · have := k4 t; omega
  · have := k6 t1 t2; omega
  · have := k7 t1 t2; omega
  · rw [q5, e2, a1]
    exact k10 t1
  · have := k4 t0
    by_cases u : zI σ 0 7 = 1
    · clear hw; omega
    · by_cases v : zI σ 0 7 = 0
      · have := hk.1 v; clear hw; omega
      · have := hn9 v u; clear hw; omega
  · unfold Gw at hw ⊢
    rw [e18, e17, e33, e32]; exact hw
  · intro t1
    have h2 : 2 * zI σ 0 17 ≤ s := by
      by_cases u : zI σ 0 7 = 1
      · have := hsep u (Or.inl t1); clear hw; omega
      · by_cases v : zI σ 0 7 = 0
        · exact absurd t1 (hz v)
        · have := hn9 v u; clear hw; omega
    clear hw
    omega
/-! P: the small steps of the parse -/
theorem GG_34 {σ : ZS} {a b : Int} (h : GG σ) : GG (zsI (zsI σ 0 3 a) 0 4 b) := h
theorem zsI_self {σ : ZS} {g : Int} {f : Nat} : zsI σ g f (zI σ g f) = σ := by
  obtain ⟨I, J⟩ := σ
  show (_, J) = (I, J)
  congr 1
  funext g' f'
  show (if g' = g then (if f' = f then I g f else I g' f') else I g' f') = I g' f'
  by_cases h : g' = g
  · rw [if_pos h]
    by_cases k : f' = f
    · rw [if_pos k, h, k]
    · rw [if_neg k]
  · rw [if_neg h]
theorem GG_37 {σ : ZS} {v : Int} (h : GG σ) (hv : 0 ≤ v ∧ v ≤ 5) : GG (zsI σ 0 37 v) := by
  obtain ⟨hT, ⟨l1, l2, l3, l4, l5, l6, l7, l8, l9, l10, l11, l12, l13, l14, l15, l16, l17, l18, l19⟩, hr⟩ := h
  exact ⟨hT, ⟨l1, l2, l3, l4, l5, l6, l7, l8, l9, l10, l11, l12, l13, hv, l15, l16, l17, l18, l19⟩, hr⟩
theorem GG_38 {σ : ZS} {v : Int} (h : GG σ) (hv : -100 ≤ v ∧ v ≤ 1000009) : GG (zsI σ 0 38 v) := by
  obtain ⟨hT, ⟨l1, l2, l3, l4, l5, l6, l7, l8, l9, l10, l11, l12, l13, l14, l15, l16, l17, l18, l19⟩, hr⟩ := h
  exact ⟨hT, ⟨l1, l2, l3, l4, l5, l6, l7, l8, l9, l10, l11, l12, l13, l14, hv, l16, l17, l18, l19⟩, hr⟩
theorem GG_39 {σ : ZS} {v : Int} (h : GG σ) (hv : -1 ≤ v ∧ v < 240) : GG (zsI σ 0 39 v) := by
  obtain ⟨hT, ⟨l1, l2, l3, l4, l5, l6, l7, l8, l9, l10, l11, l12, l13, l14, l15, l16, l17, l18, l19⟩, hr⟩ := h
  exact ⟨hT, ⟨l1, l2, l3, l4, l5, l6, l7, l8, l9, l10, l11, l12, l13, l14, l15, hv, l17, l18, l19⟩, hr⟩
theorem GG_40 {σ : ZS} {v : Int} (h : GG σ) : GG (zsI σ 0 40 v) := h
theorem GG_41 {σ : ZS} {v : Int} (h : GG σ) (hv : -1 ≤ v ∧ v ≤ 47) : GG (zsI σ 0 41 v) := by
  obtain ⟨hT, ⟨l1, l2, l3, l4, l5, l6, l7, l8, l9, l10, l11, l12, l13, l14, l15, l16, l17, l18, l19⟩, hr⟩ := h
  exact ⟨hT, ⟨l1, l2, l3, l4, l5, l6, l7, l8, l9, l10, l11, l12, l13, l14, l15, l16, hv, l18, l19⟩, hr⟩
theorem GG_42 {σ : ZS} {v : Int} (h : GG σ) (hv : -1 ≤ v ∧ v ≤ 47) : GG (zsI σ 0 42 v) := by
  obtain ⟨hT, ⟨l1, l2, l3, l4, l5, l6, l7, l8, l9, l10, l11, l12, l13, l14, l15, l16, l17, l18, l19⟩, hr⟩ := h
  exact ⟨hT, ⟨l1, l2, l3, l4, l5, l6, l7, l8, l9, l10, l11, l12, l13, l14, l15, l16, l17, hv, l19⟩, hr⟩
theorem GG_18 {σ : ZS} {v : Int} (h : GG σ) (hv : 0 ≤ v ∧ v ≤ 480) : GG (zsI σ 0 18 v) := by
  obtain ⟨hT, ⟨l1, l2, l3, l4, l5, l6, l7, l8, l9, l10, l11, l12, l13, l14, l15, l16, l17, l18, l19⟩, hk, hn, hw, h1, h2, h3, h4, h5, h6⟩ := h
  have nv : ¬ zI (zsI σ 0 18 v) 0 18 < 0 := by show ¬ v < 0; omega
  exact ⟨hT, ⟨l1, l2, l3, l4, l5, l6, l7, l8, l9, l10, l11, l12, (by show -1 ≤ v ∧ v ≤ 480; omega), l14, l15, l16, l17, l18, l19⟩, hk, hn, ⟨fun q => absurd q nv, fun q => absurd q nv⟩, h1, h2, h3, h4, h5, fun q => absurd q nv⟩
theorem PR_op {σ : ZS} {f : Nat} {v : Int} (hf : f ∈ ([3, 4, 37, 38, 39, 40, 41, 42] : List Nat)) : PR σ (zsI σ 0 f v) := by
  have e : ∀ k : Nat, k ∉ ([3, 4, 37, 38, 39, 40, 41, 42] : List Nat) → zI (zsI σ 0 f v) 0 k = zI σ 0 k := fun k hk => zI_nf (fun q => hk (q ▸ hf))
  have hm : ∀ f ∈ ([3, 4, 37, 38, 39, 40, 41, 42] : List Nat), f ∈ PF := by decide
  refine ⟨fr.i (hm f hf), ?_, ?_, ?_, fun _ _ _ => ⟨rfl, rfl⟩, ?_, ?_, ?_⟩
  · rw [e 6 (by decide)]; exact Int.le_refl _
  · rw [e 5 (by decide)]; exact Int.le_refl _
  · rw [e 23 (by decide)]; exact Int.le_refl _
  · rw [e 18 (by decide)]; exact fun h => h
  · rw [e 17 (by decide)]; exact Int.le_refl _
  · rw [e 33 (by decide)]; exact Int.le_refl _
theorem PR_18 {σ : ZS} {v : Int} (hv : 0 ≤ v) : PR σ (zsI σ 0 18 v) := ⟨fr.i (by decide), Int.le_refl _, Int.le_refl _, Int.le_refl _, fun _ _ _ => ⟨rfl, rfl⟩, fun _ => hv, Int.le_refl _, Int.le_refl _⟩
theorem s_fault {σ : ZS} {Q : Int → ZS → Prop} (h : Q 0 (zsI (zsI σ 0 3 1) 0 4 (zI σ 0 6))) : wpX11_fault σ Q := h
theorem PR_fault {σ : ZS} {a b : Int} : PR σ (zsI (zsI σ 0 3 a) 0 4 b) := PR.tr (PR_op (by decide)) (PR_op (by decide))
theorem s_wrongAt {σ : ZS} {p : Int} {Q : ZS → Prop} (hL : GL σ) (hp : 0 ≤ p ∧ p ≤ 480) (hQ : ∀ w : Int, 0 ≤ w → w ≤ 480 → Q (zsI σ 0 18 w)) : wpX11_wrongAt p σ Q := by
  obtain ⟨-, -, -, -, -, -, -, -, -, -, -, -, l13, -⟩ := hL
  unfold wpX11_wrongAt wpX11_wrongAt_15 wpX11_wrongAt_20
  refine ⟨by omega, fun _ => hQ p hp.1 hp.2, fun h => ⟨by omega, fun _ => ?_, fun _ => hQ p hp.1 hp.2⟩⟩
  have := hQ (zI σ 0 18) (by omega) (by omega)
  rw [zsI_self] at this
  exact this
/-! P: uses and pieces -/
abbrev EA : List Nat := [24, 25, 26, 27, 28, 30]
theorem s_use {σ : ZS} {a n p : Int} {Q : ZS → Prop} (hG : GG σ) (ha : 0 ≤ a ∧ a ≤ 4) (hn : 0 ≤ n ∧ n < 240 ∧ n < zI σ 0 17) (hp : 0 ≤ p ∧ p ≤ 480) (hu : zI σ 0 23 + 1 ≤ zI σ 0 5 ∧ zI σ 0 23 < 480) (hc : a = 0 → 7 * (cntP (zA σ 0 19) (zI σ 0 23).toNat + 1) ≤ zI σ 0 5) (hQ : ∀ τ : ZS, GG τ → PR σ τ → fr [23] [19, 20, 21, 22] σ τ → zI τ 0 23 = zI σ 0 23 + 1 → (a = 1 ∨ a = 4 → hasUse τ n) → Q τ) : wpX11_use a n p σ Q := by
  obtain ⟨hT, hL, hk, hn9, hw, h1, h2, h3, h4, h5, h6⟩ := hG
  obtain ⟨l1, l2, l3, l4, l5, l6, l7, l8, l9, l10, l11, l12, l13, l14, l15, l16, l17, l18, l19⟩ := hL
  unfold wpX11_use
  refine ⟨by omega, ?_⟩
  obtain ⟨τ, hτ⟩ : ∃ τ, τ = zsI (zsA (zsA (zsA (zsA σ 0 19 (zI σ 0 23) a) 0 20 (zI σ 0 23) n) 0 21 (zI σ 0 23) p) 0 22 (zI σ 0 23) (zI σ 0 32)) 0 23 (zI σ 0 23 + 1) := ⟨_, rfl⟩
  rw [← hτ]
  have hf : fr [23] [19, 20, 21, 22] σ τ := by rw [hτ]; exact ((((fr.rf.ta (by decide)).ta (by decide)).ta (by decide)).ta (by decide)).ti (by decide)
  have e23 : zI τ 0 23 = zI σ 0 23 + 1 := by rw [hτ]; rfl
  have b19 : zA τ 0 19 = zu (zA σ 0 19) (zI σ 0 23) a := by rw [hτ]; rfl
  have b20 : zA τ 0 20 = zu (zA σ 0 20) (zI σ 0 23) n := by rw [hτ]; rfl
  have b21 : zA τ 0 21 = zu (zA σ 0 21) (zI σ 0 23) p := by rw [hτ]; rfl
  have b22 : zA τ 0 22 = zu (zA σ 0 22) (zI σ 0 23) (zI σ 0 32) := by rw [hτ]; rfl
  clear hτ
  have i : ∀ f : Nat, f ≠ 23 → zI τ 0 f = zI σ 0 f := fun f hf' => hf.1 f (by simpa using hf')
  have r : ∀ f : Nat, f ∉ ([19, 20, 21, 22] : List Nat) → zA τ 0 f = zA σ 0 f := hf.2
  have hold : ∀ u : Int, 0 ≤ u → u < zI σ 0 23 → zA τ 0 20 u = zA σ 0 20 u ∧ zA τ 0 19 u = zA σ 0 19 u := fun u _ u1 => by rw [b20, b19, pu_ne (by omega), pu_ne (by omega)]; exact ⟨rfl, rfl⟩
  have hPR : PR σ τ := ⟨hf.up (by decide) (by decide), by rw [i 6 (by decide)]; omega, by rw [i 5 (by decide)]; omega, by omega, hold, by rw [i 18 (by decide)]; exact fun h => h, by rw [i 17 (by decide)]; omega, by rw [i 33 (by decide)]; omega⟩
  have hcnt : 7 * cntP (zA τ 0 19) (zI τ 0 23).toNat ≤ zI τ 0 5 := by
    rw [b19, e23, i 5 (by decide), show (zI σ 0 23 + 1).toNat = (zI σ 0 23).toNat + 1 by omega]
    show 7 * (cntP (zu (zA σ 0 19) (zI σ 0 23) a) (zI σ 0 23).toNat + (if zu (zA σ 0 19) (zI σ 0 23) a ((zI σ 0 23).toNat : Int) = 0 then 1 else 0)) ≤ _
    rw [cntP_zu _ (by omega), show (((zI σ 0 23).toNat : Nat) : Int) = zI σ 0 23 by omega, pu_eq]
    by_cases q : a = 0
    · rw [if_pos q]; exact hc q
    · rw [if_neg q]; omega
  have hGL : GL τ := by
    unfold GL
    rw [i 2 (by decide), i 6 (by decide), i 5 (by decide), i 7 (by decide), i 9 (by decide), i 10 (by decide), i 8 (by decide), i 17 (by decide), i 31 (by decide), i 34 (by decide), i 33 (by decide), i 32 (by decide), i 18 (by decide), i 37 (by decide), i 38 (by decide), i 39 (by decide), i 41 (by decide), i 42 (by decide)]
    rw [i 5 (by decide)] at hcnt
    exact ⟨l1, l2, l3, l4, l5, l6, l7, by omega, l9, l10, l11, l12, l13, l14, l15, l16, l17, l18, hcnt⟩
  have hmono : ∀ m : Int, hasUse σ m → hasUse τ m := fun m => hPR.hasUse
  refine hQ τ ⟨hT.fr hf (by decide) (by decide) (by decide), hGL, ?_, ?_, ?_, ?_, ?_, ?_, ?_, ?_, ?_⟩ hPR hf e23 (fun q => ⟨zI σ 0 23, by omega, by omega, by rw [b20, pu_eq], by rw [b19, pu_eq]; exact q⟩)
  · unfold Gk; rw [i 7 (by decide), i 6 (by decide), i 2 (by decide), i 5 (by decide), i 9 (by decide), r 1 (by decide)]; exact hk
  · unfold Gn; rw [i 7 (by decide), i 17 (by decide), i 5 (by decide)]; exact hn9
  · unfold Gw; rw [i 18 (by decide), i 17 (by decide), i 33 (by decide), i 32 (by decide)]; exact hw
  · unfold G1; rw [r 13 (by decide), r 14 (by decide), r 15 (by decide), r 12 (by decide)]; exact h1
  · intro u u0 u1
    obtain ⟨q1, q2, q3, q4⟩ := h2 u u0 u1
    rw [b19, b20, b21, b22]
    by_cases e : u = zI σ 0 23
    · rw [e, pu_eq, pu_eq, pu_eq, pu_eq]
      exact ⟨ha, by omega, hp, by omega⟩
    · rw [pu_ne e, pu_ne e, pu_ne e, pu_ne e]
      exact ⟨q1, q2, q3, q4⟩
  · unfold G3; rw [r 24 (by decide), r 25 (by decide), r 26 (by decide), r 27 (by decide), r 28 (by decide), r 30 (by decide)]; exact h3
  · unfold G4; rw [r 35 (by decide), r 13 (by decide), r 14 (by decide), r 15 (by decide), i 34 (by decide), i 17 (by decide)]; exact h4
  · refine ⟨fun u u0 u1 => ?_, fun q q0 q1 q2 => ?_⟩
    · rw [b20, i 17 (by decide)]
      by_cases e : u = zI σ 0 23
      · rw [e, pu_eq]; omega
      · rw [pu_ne e]; exact h5.1 u u0 (by omega)
    · rw [r 24 (by decide)] at q2
      rw [i 31 (by decide)] at q1
      rw [r 25 (by decide)]
      exact hmono _ (h5.2 q q0 q1 q2)
  · unfold G6; rw [i 18 (by decide), i 31 (by decide), i 34 (by decide), i 17 (by decide), r 28 (by decide), r 13 (by decide), r 14 (by decide)]; exact h6
/-- k pieces at most were added -/
def Em (k : Int) (σ τ : ZS) : Prop := GG τ ∧ PR σ τ ∧ fr [31] EA σ τ ∧ zI σ 0 31 ≤ zI τ 0 31 ∧ zI τ 0 31 ≤ zI σ 0 31 + k
theorem Em.tr {a b : Int} {σ τ υ : ZS} (h : Em a σ τ) (k : Em b τ υ) : Em (a + b) σ υ := by
  obtain ⟨h1, h2, h3, h4, h5⟩ := h
  obtain ⟨k1, k2, k3, k4, k5⟩ := k
  exact ⟨k1, h2.tr k2, h3.tr k3, by omega, by omega⟩
theorem s_piece {σ : ZS} {k a b p : Int} {Q : ZS → Prop} (hG : GG σ) (hs : zI σ 0 33 = 1) (hp9 : zI σ 0 31 + 1 ≤ 2 * zI σ 0 6 + 8) (hk9 : 0 ≤ k ∧ k ≤ 8) (hn : 2 ≤ k → k ≤ 7 → 0 ≤ a ∧ a < 240) (h8 : k = 8 → 0 ≤ a ∧ a ≤ 64) (ha : -20000000 ≤ a ∧ a ≤ 20000000) (hb : -20000000 ≤ b ∧ b ≤ 20000000) (hp : 0 ≤ p ∧ p ≤ 480) (hu : k = 2 ∨ k = 3 → hasUse σ a) (hQ : ∀ τ : ZS, Em 1 σ τ → Q τ) : wpX11_piece k a b p σ Q := by
  obtain ⟨hT, hL, hk, hn9, hw, h1, h2, h3, h4, h5, h6⟩ := hG
  obtain ⟨l1, l2, l3, l4, l5, l6, l7, l8, l9, l10, l11, l12, l13, l14, l15, l16, l17, l18, l19⟩ := hL
  unfold wpX11_piece
  refine ⟨by omega, ?_⟩
  obtain ⟨τ, hτ⟩ : ∃ τ, τ = zsI (zsA (zsA (zsA (zsA (zsA (zsA σ 0 24 (zI σ 0 31) k) 0 25 (zI σ 0 31) a) 0 26 (zI σ 0 31) b) 0 27 (zI σ 0 31) p) 0 28 (zI σ 0 31) (zI σ 0 32)) 0 30 (zI σ 0 31) 0) 0 31 (zI σ 0 31 + 1) := ⟨_, rfl⟩
  rw [← hτ]
  have hf : fr [31] EA σ τ := by rw [hτ]; exact ((((((fr.rf.ta (by decide)).ta (by decide)).ta (by decide)).ta (by decide)).ta (by decide)).ta (by decide)).ti (by decide)
  have e31 : zI τ 0 31 = zI σ 0 31 + 1 := by rw [hτ]; rfl
  have b24 : zA τ 0 24 = zu (zA σ 0 24) (zI σ 0 31) k := by rw [hτ]; rfl
  have b25 : zA τ 0 25 = zu (zA σ 0 25) (zI σ 0 31) a := by rw [hτ]; rfl
  have b26 : zA τ 0 26 = zu (zA σ 0 26) (zI σ 0 31) b := by rw [hτ]; rfl
  have b27 : zA τ 0 27 = zu (zA σ 0 27) (zI σ 0 31) p := by rw [hτ]; rfl
  have b28 : zA τ 0 28 = zu (zA σ 0 28) (zI σ 0 31) (zI σ 0 32) := by rw [hτ]; rfl
  have b30 : zA τ 0 30 = zu (zA σ 0 30) (zI σ 0 31) 0 := by rw [hτ]; rfl
  clear hτ
  have i : ∀ f : Nat, f ≠ 31 → zI τ 0 f = zI σ 0 f := fun f hf' => hf.1 f (by simpa using hf')
  have r : ∀ f : Nat, f ∉ EA → zA τ 0 f = zA σ 0 f := hf.2
  have hPR : PR σ τ := ⟨hf.up (by decide) (by decide), by rw [i 6 (by decide)]; omega, by rw [i 5 (by decide)]; omega, by rw [i 23 (by decide)]; omega, fun u _ _ => by rw [r 20 (by decide), r 19 (by decide)]; exact ⟨rfl, rfl⟩, by rw [i 18 (by decide)]; exact fun h => h, by rw [i 17 (by decide)]; omega, by rw [i 33 (by decide)]; omega⟩
  have hGL : GL τ := by
    unfold GL
    rw [i 2 (by decide), i 6 (by decide), i 5 (by decide), i 7 (by decide), i 9 (by decide), i 10 (by decide), i 8 (by decide), i 17 (by decide), i 23 (by decide), i 34 (by decide), i 33 (by decide), i 32 (by decide), i 18 (by decide), i 37 (by decide), i 38 (by decide), i 39 (by decide), i 41 (by decide), i 42 (by decide), r 19 (by decide)]
    exact ⟨l1, l2, l3, l4, l5, l6, l7, l8, by omega, l10, l11, l12, l13, l14, l15, l16, l17, l18, l19⟩
  have hus : ∀ m : Int, hasUse σ m → hasUse τ m := fun m => hPR.hasUse
  refine hQ τ ⟨⟨hT.fr hf (by decide) (by decide) (by decide), hGL, ?_, ?_, ?_, ?_, ?_, ?_, ?_, ?_, ?_⟩, hPR, hf, by omega, by omega⟩
  · unfold Gk; rw [i 7 (by decide), i 6 (by decide), i 2 (by decide), i 5 (by decide), i 9 (by decide), r 1 (by decide)]; exact hk
  · unfold Gn; rw [i 7 (by decide), i 17 (by decide), i 5 (by decide)]; exact hn9
  · unfold Gw; rw [i 18 (by decide), i 17 (by decide), i 33 (by decide), i 32 (by decide)]; exact hw
  · unfold G1; rw [r 13 (by decide), r 14 (by decide), r 15 (by decide), r 12 (by decide)]; exact h1
  · unfold G2; rw [r 19 (by decide), r 20 (by decide), r 21 (by decide), r 22 (by decide)]; exact h2
  · intro q q0 q1
    obtain ⟨c1, c2, c3, c4, c5, c6, c7, c8⟩ := h3 q q0 q1
    rw [b24, b25, b26, b27, b28, b30]
    by_cases e : q = zI σ 0 31
    · rw [e, pu_eq, pu_eq, pu_eq, pu_eq, pu_eq, pu_eq]
      exact ⟨hk9, hn, h8, ha, hb, hp, by omega, by omega⟩
    · rw [pu_ne e, pu_ne e, pu_ne e, pu_ne e, pu_ne e, pu_ne e]
      exact ⟨c1, c2, c3, c4, c5, c6, c7, c8⟩
  · unfold G4; rw [r 35 (by decide), r 13 (by decide), r 14 (by decide), r 15 (by decide), i 34 (by decide), i 17 (by decide)]; exact h4
  · refine ⟨fun u u0 u1 => ?_, fun q q0 q1 q2 => ?_⟩
    · rw [i 23 (by decide)] at u1
      rw [r 20 (by decide), i 17 (by decide)]; exact h5.1 u u0 u1
    · rw [b24] at q2
      rw [b25]
      by_cases e : q = zI σ 0 31
      · rw [e, pu_eq] at q2 ⊢; exact hus _ (hu q2)
      · rw [pu_ne e] at q2 ⊢; exact hus _ (h5.2 q q0 (by omega) q2)
  · intro hwr
    rw [i 18 (by decide)] at hwr
    refine ⟨fun q q0 q1 => ?_, ?_⟩
    · rw [b28, i 34 (by decide)]
      by_cases e : q = zI σ 0 31
      · rw [e, pu_eq]; exact ⟨hw.2 hwr hs, l12.2⟩
      · rw [pu_ne e]; exact (h6 hwr).1 q q0 (by omega)
    · rw [i 17 (by decide), r 13 (by decide), r 14 (by decide)]; exact (h6 hwr).2
/-! P: operands -/
def OpU (σ : ZS) : Prop := (zI σ 0 37 = 2 → 0 ≤ zI σ 0 39 → hasUse σ (zI σ 0 39)) ∧ (4 ≤ zI σ 0 37 → 0 ≤ zI σ 0 39 ∧ hasUse σ (zI σ 0 39))
theorem OpU.pr {σ τ : ZS} (h : OpU σ) (k : PR σ τ) (e37 : zI τ 0 37 = zI σ 0 37) (e39 : zI τ 0 39 = zI σ 0 39) : OpU τ := by
  unfold OpU
  rw [e37, e39]
  exact ⟨fun a b => k.hasUse (h.1 a b), fun a => ⟨(h.2 a).1, k.hasUse (h.2 a).2⟩⟩
theorem Em.up {a b : Int} {σ τ : ZS} (h : Em a σ τ) (hab : a ≤ b) : Em b σ τ := by
  obtain ⟨h1, h2, h3, h4, h5⟩ := h
  exact ⟨h1, h2, h3, h4, by omega⟩
/-- an operand was read, or not -/
def Opd (σ : ZS) (r : Int) (τ : ZS) : Prop := GG τ ∧ PR σ τ ∧ zI τ 0 31 = zI σ 0 31 ∧ (r = 0 ∨ r = 1) ∧ (r = 1 → zI σ 0 6 + 1 ≤ zI τ 0 6 ∧ OpU τ ∧ Fresh τ)
/-! P: memory, any operand -/
theorem zand_bd (a b : Int) : -2147483648 ≤ zand a b ∧ zand a b ≤ 2147483647 := by
  unfold zand
  have h1 := Int32.le_toInt (Int32.ofInt a &&& Int32.ofInt b)
  have h2 := Int32.toInt_lt (Int32.ofInt a &&& Int32.ofInt b)
  omega
/-! P: instructions -/
theorem Em.s6 {k : Int} {σ τ : ZS} (h : Em k σ τ) : zI τ 0 6 = zI σ 0 6 := h.2.2.1.1 6 (by decide)
theorem Em.s33 {k : Int} {σ τ : ZS} (h : Em k σ τ) (hs : zI σ 0 33 = 1) : zI τ 0 33 = 1 := (h.2.2.1.1 33 (by decide)).trans hs
theorem Em.ops {k : Int} {σ τ : ZS} (h : Em k σ τ) (hO : OpU σ) : OpU τ := hO.pr h.2.1 (h.2.2.1.1 37 (by decide)) (h.2.2.1.1 39 (by decide))
theorem GG_ops {σ : ZS} {a b c d e : Int} (h : GG σ) (ha : 0 ≤ a ∧ a ≤ 5) (hb : -100 ≤ b ∧ b ≤ 1000009) (hc : -1 ≤ c ∧ c < 240) (hd : -1 ≤ d ∧ d ≤ 47) (he : -1 ≤ e ∧ e ≤ 47) : GG (zsI (zsI (zsI (zsI (zsI σ 0 37 a) 0 38 b) 0 39 c) 0 41 d) 0 42 e) := GG_42 (GG_41 (GG_39 (GG_38 (GG_37 h ha) hb) hc) hd) he
theorem PR_ops {σ : ZS} {a b c d e : Int} : PR σ (zsI (zsI (zsI (zsI (zsI σ 0 37 a) 0 38 b) 0 39 c) 0 41 d) 0 42 e) := (((PR_op (by decide)).tr (PR_op (by decide))).tr (PR_op (by decide))).tr ((PR_op (by decide)).tr (PR_op (by decide)))
/-! P: jumps, data, labels, segments -/
