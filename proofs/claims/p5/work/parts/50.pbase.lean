/-! P: reasoning over the predicates -/
theorem pI {σ : ZS} {g g' v : Int} {f f' : Nat} : zI (zsI σ g f v) g' f' = if g' = g then (if f' = f then v else zI σ g' f') else zI σ g' f' := rfl
theorem pIF {σ : ZS} {g g' : Int} {f f' : Nat} {h : Int → Int} : zI (zsF σ g f h) g' f' = zI σ g' f' := rfl
theorem pIA {σ : ZS} {g g' i v : Int} {f f' : Nat} : zI (zsA σ g f i v) g' f' = zI σ g' f' := rfl
theorem pA {σ : ZS} {g g' : Int} {f f' : Nat} {h : Int → Int} : zA (zsF σ g f h) g' f' = if g' = g then (if f' = f then h else zA σ g' f') else zA σ g' f' := rfl
theorem pAA {σ : ZS} {g g' i v : Int} {f f' : Nat} : zA (zsA σ g f i v) g' f' = if g' = g then (if f' = f then zu (zA σ g f) i v else zA σ g' f') else zA σ g' f' := rfl
theorem pAI {σ : ZS} {g g' v : Int} {f f' : Nat} : zA (zsI σ g f v) g' f' = zA σ g' f' := rfl
theorem pu {h : Int → Int} {i v j : Int} : zu h i v j = if j = i then v else h j := rfl
theorem pu_eq {h : Int → Int} {i v : Int} : zu h i v i = v := if_pos rfl
theorem pu_ne {h : Int → Int} {i v j : Int} (e : j ≠ i) : zu h i v j = h j := if_neg e
theorem lfp0_ind {F : (ZS → Prop) → ZS → Prop} (m : ZS → Nat) (I : ZS → Prop) (h : ∀ (P : ZS → Prop) (σ : ZS), I σ → (∀ (τ : ZS), I τ → m τ < m σ → P τ) → F P σ) {σ : ZS} (h0 : I σ) : lfp0 F σ := by
  intro P hP
  have key : ∀ (n : Nat) (σ : ZS), m σ < n → I σ → P σ := by
    intro n
    induction n with
    | zero => intro σ hn; exact absurd hn (Nat.not_lt_zero _)
    | succ n ih => intro σ hn hI; exact hP σ (h P σ hI (fun τ hI' hm => ih τ (by omega) hI'))
  exact key (m σ + 1) σ (Nat.lt_succ_self _) h0
theorem lfp1_ind {F : (Int → ZS → Prop) → Int → ZS → Prop} (m : Int → ZS → Nat) (I : Int → ZS → Prop) (h : ∀ (P : Int → ZS → Prop) (a0 : Int) (σ : ZS), I a0 σ → (∀ (b0 : Int) (τ : ZS), I b0 τ → m b0 τ < m a0 σ → P b0 τ) → F P a0 σ) {a0 : Int} {σ : ZS} (h0 : I a0 σ) : lfp1 F a0 σ := by
  intro P hP
  have key : ∀ (n : Nat) (a0 : Int) (σ : ZS), m a0 σ < n → I a0 σ → P a0 σ := by
    intro n
    induction n with
    | zero => intro a0 σ hn; exact absurd hn (Nat.not_lt_zero _)
    | succ n ih => intro a0 σ hn hI; exact hP a0 σ (h P a0 σ hI (fun b0 τ hI' hm => ih b0 τ (by omega) hI'))
  exact key (m a0 σ + 1) a0 σ (Nat.lt_succ_self _) h0
theorem lfp2_ind {F : (Int → Int → ZS → Prop) → Int → Int → ZS → Prop} (m : Int → Int → ZS → Nat) (I : Int → Int → ZS → Prop) (h : ∀ (P : Int → Int → ZS → Prop) (a0 a1 : Int) (σ : ZS), I a0 a1 σ → (∀ (b0 b1 : Int) (τ : ZS), I b0 b1 τ → m b0 b1 τ < m a0 a1 σ → P b0 b1 τ) → F P a0 a1 σ) {a0 a1 : Int} {σ : ZS} (h0 : I a0 a1 σ) : lfp2 F a0 a1 σ := by
  intro P hP
  have key : ∀ (n : Nat) (a0 a1 : Int) (σ : ZS), m a0 a1 σ < n → I a0 a1 σ → P a0 a1 σ := by
    intro n
    induction n with
    | zero => intro a0 a1 σ hn; exact absurd hn (Nat.not_lt_zero _)
    | succ n ih => intro a0 a1 σ hn hI; exact hP a0 a1 σ (h P a0 a1 σ hI (fun b0 b1 τ hI' hm => ih b0 b1 τ (by omega) hI'))
  exact key (m a0 a1 σ + 1) a0 a1 σ (Nat.lt_succ_self _) h0
theorem lfp3_ind {F : (Int → Int → Int → ZS → Prop) → Int → Int → Int → ZS → Prop} (m : Int → Int → Int → ZS → Nat) (I : Int → Int → Int → ZS → Prop) (h : ∀ (P : Int → Int → Int → ZS → Prop) (a0 a1 a2 : Int) (σ : ZS), I a0 a1 a2 σ → (∀ (b0 b1 b2 : Int) (τ : ZS), I b0 b1 b2 τ → m b0 b1 b2 τ < m a0 a1 a2 σ → P b0 b1 b2 τ) → F P a0 a1 a2 σ) {a0 a1 a2 : Int} {σ : ZS} (h0 : I a0 a1 a2 σ) : lfp3 F a0 a1 a2 σ := by
  intro P hP
  have key : ∀ (n : Nat) (a0 a1 a2 : Int) (σ : ZS), m a0 a1 a2 σ < n → I a0 a1 a2 σ → P a0 a1 a2 σ := by
    intro n
    induction n with
    | zero => intro a0 a1 a2 σ hn; exact absurd hn (Nat.not_lt_zero _)
    | succ n ih => intro a0 a1 a2 σ hn hI; exact hP a0 a1 a2 σ (h P a0 a1 a2 σ hI (fun b0 b1 b2 τ hI' hm => ih b0 b1 b2 τ (by omega) hI'))
  exact key (m a0 a1 a2 σ + 1) a0 a1 a2 σ (Nat.lt_succ_self _) h0
theorem lfp4_ind {F : (Int → Int → Int → Int → ZS → Prop) → Int → Int → Int → Int → ZS → Prop} (m : Int → Int → Int → Int → ZS → Nat) (I : Int → Int → Int → Int → ZS → Prop) (h : ∀ (P : Int → Int → Int → Int → ZS → Prop) (a0 a1 a2 a3 : Int) (σ : ZS), I a0 a1 a2 a3 σ → (∀ (b0 b1 b2 b3 : Int) (τ : ZS), I b0 b1 b2 b3 τ → m b0 b1 b2 b3 τ < m a0 a1 a2 a3 σ → P b0 b1 b2 b3 τ) → F P a0 a1 a2 a3 σ) {a0 a1 a2 a3 : Int} {σ : ZS} (h0 : I a0 a1 a2 a3 σ) : lfp4 F a0 a1 a2 a3 σ := by
  intro P hP
  have key : ∀ (n : Nat) (a0 a1 a2 a3 : Int) (σ : ZS), m a0 a1 a2 a3 σ < n → I a0 a1 a2 a3 σ → P a0 a1 a2 a3 σ := by
    intro n
    induction n with
    | zero => intro a0 a1 a2 a3 σ hn; exact absurd hn (Nat.not_lt_zero _)
    | succ n ih => intro a0 a1 a2 a3 σ hn hI; exact hP a0 a1 a2 a3 σ (h P a0 a1 a2 a3 σ hI (fun b0 b1 b2 b3 τ hI' hm => ih b0 b1 b2 b3 τ (by omega) hI'))
  exact key (m a0 a1 a2 a3 σ + 1) a0 a1 a2 a3 σ (Nat.lt_succ_self _) h0
theorem lfp5_ind {F : (Int → Int → Int → Int → Int → ZS → Prop) → Int → Int → Int → Int → Int → ZS → Prop} (m : Int → Int → Int → Int → Int → ZS → Nat) (I : Int → Int → Int → Int → Int → ZS → Prop) (h : ∀ (P : Int → Int → Int → Int → Int → ZS → Prop) (a0 a1 a2 a3 a4 : Int) (σ : ZS), I a0 a1 a2 a3 a4 σ → (∀ (b0 b1 b2 b3 b4 : Int) (τ : ZS), I b0 b1 b2 b3 b4 τ → m b0 b1 b2 b3 b4 τ < m a0 a1 a2 a3 a4 σ → P b0 b1 b2 b3 b4 τ) → F P a0 a1 a2 a3 a4 σ) {a0 a1 a2 a3 a4 : Int} {σ : ZS} (h0 : I a0 a1 a2 a3 a4 σ) : lfp5 F a0 a1 a2 a3 a4 σ := by
  intro P hP
  have key : ∀ (n : Nat) (a0 a1 a2 a3 a4 : Int) (σ : ZS), m a0 a1 a2 a3 a4 σ < n → I a0 a1 a2 a3 a4 σ → P a0 a1 a2 a3 a4 σ := by
    intro n
    induction n with
    | zero => intro a0 a1 a2 a3 a4 σ hn; exact absurd hn (Nat.not_lt_zero _)
    | succ n ih => intro a0 a1 a2 a3 a4 σ hn hI; exact hP a0 a1 a2 a3 a4 σ (h P a0 a1 a2 a3 a4 σ hI (fun b0 b1 b2 b3 b4 τ hI' hm => ih b0 b1 b2 b3 b4 τ (by omega) hI'))
  exact key (m a0 a1 a2 a3 a4 σ + 1) a0 a1 a2 a3 a4 σ (Nat.lt_succ_self _) h0
theorem lfp6_ind {F : (Int → Int → Int → Int → Int → Int → ZS → Prop) → Int → Int → Int → Int → Int → Int → ZS → Prop} (m : Int → Int → Int → Int → Int → Int → ZS → Nat) (I : Int → Int → Int → Int → Int → Int → ZS → Prop) (h : ∀ (P : Int → Int → Int → Int → Int → Int → ZS → Prop) (a0 a1 a2 a3 a4 a5 : Int) (σ : ZS), I a0 a1 a2 a3 a4 a5 σ → (∀ (b0 b1 b2 b3 b4 b5 : Int) (τ : ZS), I b0 b1 b2 b3 b4 b5 τ → m b0 b1 b2 b3 b4 b5 τ < m a0 a1 a2 a3 a4 a5 σ → P b0 b1 b2 b3 b4 b5 τ) → F P a0 a1 a2 a3 a4 a5 σ) {a0 a1 a2 a3 a4 a5 : Int} {σ : ZS} (h0 : I a0 a1 a2 a3 a4 a5 σ) : lfp6 F a0 a1 a2 a3 a4 a5 σ := by
  intro P hP
  have key : ∀ (n : Nat) (a0 a1 a2 a3 a4 a5 : Int) (σ : ZS), m a0 a1 a2 a3 a4 a5 σ < n → I a0 a1 a2 a3 a4 a5 σ → P a0 a1 a2 a3 a4 a5 σ := by
    intro n
    induction n with
    | zero => intro a0 a1 a2 a3 a4 a5 σ hn; exact absurd hn (Nat.not_lt_zero _)
    | succ n ih => intro a0 a1 a2 a3 a4 a5 σ hn hI; exact hP a0 a1 a2 a3 a4 a5 σ (h P a0 a1 a2 a3 a4 a5 σ hI (fun b0 b1 b2 b3 b4 b5 τ hI' hm => ih b0 b1 b2 b3 b4 b5 τ (by omega) hI'))
  exact key (m a0 a1 a2 a3 a4 a5 σ + 1) a0 a1 a2 a3 a4 a5 σ (Nat.lt_succ_self _) h0
theorem lfp7_ind {F : (Int → Int → Int → Int → Int → Int → Int → ZS → Prop) → Int → Int → Int → Int → Int → Int → Int → ZS → Prop} (m : Int → Int → Int → Int → Int → Int → Int → ZS → Nat) (I : Int → Int → Int → Int → Int → Int → Int → ZS → Prop) (h : ∀ (P : Int → Int → Int → Int → Int → Int → Int → ZS → Prop) (a0 a1 a2 a3 a4 a5 a6 : Int) (σ : ZS), I a0 a1 a2 a3 a4 a5 a6 σ → (∀ (b0 b1 b2 b3 b4 b5 b6 : Int) (τ : ZS), I b0 b1 b2 b3 b4 b5 b6 τ → m b0 b1 b2 b3 b4 b5 b6 τ < m a0 a1 a2 a3 a4 a5 a6 σ → P b0 b1 b2 b3 b4 b5 b6 τ) → F P a0 a1 a2 a3 a4 a5 a6 σ) {a0 a1 a2 a3 a4 a5 a6 : Int} {σ : ZS} (h0 : I a0 a1 a2 a3 a4 a5 a6 σ) : lfp7 F a0 a1 a2 a3 a4 a5 a6 σ := by
  intro P hP
  have key : ∀ (n : Nat) (a0 a1 a2 a3 a4 a5 a6 : Int) (σ : ZS), m a0 a1 a2 a3 a4 a5 a6 σ < n → I a0 a1 a2 a3 a4 a5 a6 σ → P a0 a1 a2 a3 a4 a5 a6 σ := by
    intro n
    induction n with
    | zero => intro a0 a1 a2 a3 a4 a5 a6 σ hn; exact absurd hn (Nat.not_lt_zero _)
    | succ n ih => intro a0 a1 a2 a3 a4 a5 a6 σ hn hI; exact hP a0 a1 a2 a3 a4 a5 a6 σ (h P a0 a1 a2 a3 a4 a5 a6 σ hI (fun b0 b1 b2 b3 b4 b5 b6 τ hI' hm => ih b0 b1 b2 b3 b4 b5 b6 τ (by omega) hI'))
  exact key (m a0 a1 a2 a3 a4 a5 a6 σ + 1) a0 a1 a2 a3 a4 a5 a6 σ (Nat.lt_succ_self _) h0
/-- what a step of the reference may change -/
def fr (fs as : List Nat) (σ τ : ZS) : Prop := (∀ f : Nat, f ∉ fs → zI τ 0 f = zI σ 0 f) ∧ (∀ a : Nat, a ∉ as → zA τ 0 a = zA σ 0 a)
theorem fr.rf {fs as : List Nat} {σ : ZS} : fr fs as σ σ := ⟨fun _ _ => rfl, fun _ _ => rfl⟩
theorem fr.tr {fs as : List Nat} {σ τ υ : ZS} (h : fr fs as σ τ) (k : fr fs as τ υ) : fr fs as σ υ := ⟨fun f hf => (k.1 f hf).trans (h.1 f hf), fun a ha => (k.2 a ha).trans (h.2 a ha)⟩
theorem fr.i {fs as : List Nat} {σ : ZS} {f : Nat} {v : Int} (hf : f ∈ fs) : fr fs as σ (zsI σ 0 f v) := ⟨fun f' h => zI_nf (fun e => h (e ▸ hf)), fun _ _ => rfl⟩
theorem fr.a {fs as : List Nat} {σ : ZS} {a : Nat} {i v : Int} (ha : a ∈ as) : fr fs as σ (zsA σ 0 a i v) := ⟨fun _ _ => rfl, fun a' h => zA_nf (fun e => h (e ▸ ha))⟩
theorem fr.ti {fs as : List Nat} {σ τ : ZS} {f : Nat} {v : Int} (h : fr fs as σ τ) (hf : f ∈ fs) : fr fs as σ (zsI τ 0 f v) := h.tr (fr.i hf)
theorem fr.ta {fs as : List Nat} {σ τ : ZS} {a : Nat} {i v : Int} (h : fr fs as σ τ) (ha : a ∈ as) : fr fs as σ (zsA τ 0 a i v) := h.tr (fr.a ha)
theorem fr.up {fs as fs' as' : List Nat} {σ τ : ZS} (h : fr fs as σ τ) (hf : ∀ f ∈ fs, f ∈ fs') (ha : ∀ a ∈ as, a ∈ as') : fr fs' as' σ τ := ⟨fun f k => h.1 f (fun q => k (hf f q)), fun a k => h.2 a (fun q => k (ha a q))⟩
def isRun (p : Int → Prop) (L a s : Int) : Prop := a ≤ s ∧ s ≤ L ∧ (∀ j : Int, a ≤ j → j < s → p j) ∧ (s = L ∨ ¬ p s)
def cL (c : Int) : Prop := 97 ≤ c ∧ c ≤ 122
def cD (c : Int) : Prop := 48 ≤ c ∧ c ≤ 57
def cS (c : Int) : Prop := c = 58 ∨ c = 59 ∨ c = 44 ∨ c = 91 ∨ c = 93 ∨ c = 43 ∨ c = 45 ∨ c = 64
def wv (h : Int → Int) (s : Int) : Nat → Int
  | 0 => 0
  | n + 1 => wv h s n * 256 + h (s + n)
def nv (h : Int → Int) (s : Int) : Nat → Int
  | 0 => h s - 48
  | k + 1 => if nv h s k ≤ 100000 then 10 * nv h s k + h (s + 1 + k) - 48 else nv h s k
def zwT : List Int := [24952, 25464, 25720, 25208, 29552, 25200, 29545, 25705, 25971, 25459, 29555, 25715, 7562599, 123649464756579, 111568023286382, 2003792484, 1652126821, 495806669669, 7171958, 6382692, 28530, 6385252, 7566690, 7892850, 6516080, 6909539, 6579555, 1886745448, 7368560, 7563372, 7563378, 7234919, 7173484, 6580598, 6974832, 27235, 6975075, 27258, 6975098, 27251, 6975091, 1819242352, 1667329132, 426836257894, 7497076, 1919251558, 6909556, 6843508]
def zwords (k : Int) : Int := zwT.getD k.toNat 0
theorem zw_rng {k : Int} (h0 : 0 ≤ k) (h1 : k < 48) : 0 ≤ zwords k ∧ zwords k ≤ 1125899906842624 := by
  have key : ∀ n : Nat, n < 48 → 0 ≤ zwT.getD n 0 ∧ zwT.getD n 0 ≤ 1125899906842624 := by decide
  exact key k.toNat (by omega)
theorem wv_bd {h : Int → Int} {s : Int} : ∀ n : Nat, (∀ j : Int, s ≤ j → j < s + n → 0 ≤ h j ∧ h j < 256) → 0 ≤ wv h s n ∧ wv h s n < (256 : Int) ^ n
  | 0, _ => ⟨Int.le_refl 0, (by decide : (0 : Int) < 256 ^ 0)⟩
  | n + 1, hh => by
    have ih := wv_bd n (fun j h1 h2 => hh j h1 (by omega))
    have hc := hh (s + n) (by omega) (by omega)
    show 0 ≤ wv h s n * 256 + h (s + n) ∧ wv h s n * 256 + h (s + n) < (256 : Int) ^ (n + 1)
    rw [Int.pow_succ]
    omega
theorem nv_bd {h : Int → Int} {s : Int} : ∀ n : Nat, (∀ j : Int, s ≤ j → j < s + 1 + n → 48 ≤ h j ∧ h j ≤ 57) → 0 ≤ nv h s n ∧ nv h s n ≤ 1000009
  | 0, hh => by
    have := hh s (by omega) (by omega)
    show 0 ≤ h s - 48 ∧ h s - 48 ≤ 1000009
    omega
  | n + 1, hh => by
    have ih := nv_bd n (fun j h1 h2 => hh j h1 (by omega))
    have hc := hh (s + 1 + n) (by omega) (by omega)
    show 0 ≤ (if nv h s n ≤ 100000 then 10 * nv h s n + h (s + 1 + n) - 48 else nv h s n) ∧ (if nv h s n ≤ 100000 then 10 * nv h s n + h (s + 1 + n) - 48 else nv h s n) ≤ 1000009
    split <;> omega
theorem zlor_add {w c : Int} (hw : 0 ≤ w ∧ w < 281474976710656) (hc : 0 ≤ c ∧ c < 256) : zlor (w * 256) c = w * 256 + c := by
  unfold zlor
  have e1 : Int64.ofInt (w * 256) = Int64.ofNat (w.toNat * 256) := by
    apply Int64.toInt_inj.mp
    rw [z_tl (by omega), Int64.toInt_ofNat_of_lt (by omega)]
    omega
  have e2 : Int64.ofInt c = Int64.ofNat c.toNat := by
    apply Int64.toInt_inj.mp
    rw [z_tl (by omega), Int64.toInt_ofNat_of_lt (by omega)]
    omega
  have e3 : Int64.ofNat (w.toNat * 256) ||| Int64.ofNat c.toNat = Int64.ofNat (w.toNat * 256 + c.toNat) := by
    apply Int64.toBitVec_inj.mp
    apply BitVec.eq_of_toNat_eq
    rw [Int64.toBitVec_or, BitVec.toNat_or]
    show (BitVec.ofNat 64 _).toNat ||| (BitVec.ofNat 64 _).toNat = (BitVec.ofNat 64 _).toNat
    rw [BitVec.toNat_ofNat, BitVec.toNat_ofNat, BitVec.toNat_ofNat, Nat.mod_eq_of_lt (by omega), Nat.mod_eq_of_lt (by omega), Nat.mod_eq_of_lt (by omega)]
    have := Nat.shiftLeft_add_eq_or_of_lt (b := c.toNat) (i := 8) (by omega) w.toNat
    rw [Nat.shiftLeft_eq] at this
    exact this.symm
  rw [e1, e2, e3, Int64.toInt_ofNat_of_lt (by omega)]
  omega
