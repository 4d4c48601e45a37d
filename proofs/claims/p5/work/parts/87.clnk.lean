/-! C: the linker -/
theorem z_bn {a : Int} (h : 0 ≤ a ∧ a ≤ 1073741824) : (Int32.ofInt a).toBitVec.toNat = a.toNat := by
  have e : ((Int32.ofInt a).toBitVec.toNat : Int) = a % 4294967296 := by
    show ((BitVec.ofInt 32 a).toNat : Int) = _
    rw [BitVec.toNat_ofInt, Int.toNat_of_nonneg (Int.emod_nonneg _ (by decide))]
    rfl
  omega
theorem z_hi {x y : Int} (k M : Nat) (hk : k ≤ 4) (ht : ∀ i : Nat, i < 32 → M.testBit i = decide (k ≤ i)) (hy : (Int32.ofInt y).toBitVec.toNat = M) (hx : 0 ≤ x ∧ x ≤ 1073741824) : zand x y = ((x.toNat / 2 ^ k * 2 ^ k : Nat) : Int) := by
  have hle : x.toNat / 2 ^ k * 2 ^ k ≤ x.toNat := Nat.div_mul_le_self _ _
  have key : Int32.ofInt x &&& Int32.ofInt y = Int32.ofInt ((x.toNat / 2 ^ k * 2 ^ k : Nat) : Int) := by
    apply Int32.toBitVec_inj.mp
    apply BitVec.eq_of_toNat_eq
    rw [Int32.toBitVec_and, BitVec.toNat_and, hy, z_bn hx, z_bn (by omega), Int.toNat_natCast]
    apply Nat.eq_of_testBit_eq
    intro i
    rw [Nat.testBit_and, ← Nat.shiftLeft_eq, ← Nat.shiftRight_eq_div_pow, Nat.testBit_shiftLeft, Nat.testBit_shiftRight]
    by_cases hi : i < 32
    · rw [ht i hi]
      by_cases hki : k ≤ i
      · rw [show k + (i - k) = i by omega]; simp [hki]
      · simp [hki]
    · have q : x.toNat.testBit i = false := Nat.testBit_lt_two_pow (Nat.lt_of_lt_of_le (show x.toNat < 2 ^ 32 by omega) (Nat.pow_le_pow_right (by decide) (by omega)))
      rw [q, show k + (i - k) = i by omega, q]; simp
  unfold zand
  rw [key, z_ti (by omega)]
theorem z_up {v a : Int} (ha : al a) (hv : 0 ≤ v ∧ v ≤ 1000000000) : zand (v + a - 1) (-a) = (v + a - 1) / a * a := by
  unfold al at ha
  rcases ha with rfl | rfl | rfl | rfl | rfl
  · rw [z_hi 0 4294967295 (by decide) (by decide) (by decide) (by omega)]
    show (((v + 1 - 1).toNat / 1 * 1 : Nat) : Int) = _
    omega
  · rw [z_hi 1 4294967294 (by decide) (by decide) (by decide) (by omega)]
    show (((v + 2 - 1).toNat / 2 * 2 : Nat) : Int) = _
    omega
  · rw [z_hi 2 4294967292 (by decide) (by decide) (by decide) (by omega)]
    show (((v + 4 - 1).toNat / 4 * 4 : Nat) : Int) = _
    omega
  · rw [z_hi 3 4294967288 (by decide) (by decide) (by decide) (by omega)]
    show (((v + 8 - 1).toNat / 8 * 8 : Nat) : Int) = _
    omega
  · rw [z_hi 4 4294967280 (by decide) (by decide) (by decide) (by omega)]
    show (((v + 16 - 1).toNat / 16 * 16 : Nat) : Int) = _
    omega
theorem up_bd {v a : Int} (ha : al a) (hv : 0 ≤ v) : v ≤ (v + a - 1) / a * a ∧ (v + a - 1) / a * a ≤ v + 15 := by
  unfold al at ha
  rcases ha with rfl | rfl | rfl | rfl | rfl <;> omega
def M3 (σ : ZS) : Prop := ∀ m : Int, 0 ≤ m → m ≤ 2 → MO σ m
theorem M3.k {σ τ : ZS} {G : List Int} (h : M3 σ) (k : kp G σ τ) (h0 : (0 : Int) ∉ G) (h1 : (1 : Int) ∉ G) (h2 : (2 : Int) ∉ G) : M3 τ := by
  intro m m0 m2
  obtain rfl | rfl | rfl : m = 0 ∨ m = 1 ∨ m = 2 := by omega
  · exact (h 0 m0 m2).k (k 0 h0)
  · exact (h 1 m0 m2).k (k 1 h1)
  · exact (h 2 m0 m2).k (k 2 h2)
theorem c_hasModules {σ : ZS} {Q : Int → ZS → Prop} (h : M3 σ) (hQ : ∀ x : Int, (0 ≤ x ∧ x ≤ 1) → Q x σ) : wpX3_hasModules σ Q := by
  unfold wpX3_hasModules wpX3_hasModules_2
  refine lfp1_ind (fun v _ => (3 - v).toNat) (fun v τ => τ = σ ∧ (0 ≤ v ∧ v ≤ 3)) (fun K v τ hI ih => ?_) ⟨rfl, by decide⟩
  obtain ⟨e, hv⟩ := hI
  rw [e]
  unfold wpbX3_hasModules_2
  refine ⟨by omega, fun _ => hQ 0 (by decide), fun q => ?_⟩
  have := (h v hv.1 (by omega)).1
  exact ⟨by omega, by omega, fun _ => ih _ _ ⟨rfl, by omega⟩ (by omega), fun _ => hQ 1 (by decide)⟩
theorem c_publicModule {σ : ZS} {w L : Int} {Q : Int → ZS → Prop} (h : M3 σ) (hL : 0 ≤ L ∧ L ≤ 3) (hw : 0 ≤ w ∧ w ≤ 4398046511103) (h1 : ∀ m : Int, 0 ≤ m → m < L → (∃ q : Int, 0 ≤ q ∧ q < zI σ m 13 ∧ zA σ m 14 q = w) → Q m σ) (h0 : Q (-1) σ) : wpX3_publicModule w L σ Q := by
  unfold wpX3_publicModule wpX3_publicModule_3
  refine lfp1_ind (fun v _ => (3 - v).toNat) (fun v τ => τ = σ ∧ (0 ≤ v ∧ v ≤ 3)) (fun K v τ hI ih => ?_) ⟨rfl, by decide⟩
  obtain ⟨e, hv⟩ := hI
  rw [e]
  unfold wpbX3_publicModule_3 wpX3_publicModule_39
  refine ⟨by omega, by omega, fun _ => h0, fun q => ?_⟩
  have on : K (v + 1) σ := ih _ _ ⟨rfl, by omega⟩ (by omega)
  have hm := h v hv.1 (by omega)
  have h13 := hm.2.2.2.1
  exact ⟨by omega, by have := hm.1; omega, fun _ => on, fun _ => c_publicNumber (by omega) hm hw (fun x x0 x1 xe _ => ⟨by omega, fun _ => on, fun _ => h1 v hv.1 (by omega) ⟨x, x0, x1, xe⟩⟩) (fun _ => ⟨by decide, fun _ => on, fun q => absurd (by decide) q⟩)⟩
theorem c_firstPublicTwice {σ : ZS} {Q : Int → ZS → Prop} (h : M3 σ) (hQ : ∀ x : Int, (-1 ≤ x ∧ x ≤ 2) → Q x σ) : wpX3_firstPublicTwice σ Q := by
  unfold wpX3_firstPublicTwice wpX3_firstPublicTwice_2
  refine lfp1_ind (fun v _ => (3 - v).toNat) (fun v τ => τ = σ ∧ (1 ≤ v ∧ v ≤ 3)) (fun K v τ hI ih => ?_) ⟨rfl, by decide⟩
  obtain ⟨e, hv⟩ := hI
  rw [e]
  unfold wpbX3_firstPublicTwice_2 wpX3_firstPublicTwice_16
  refine ⟨by omega, fun _ => hQ _ (by decide), fun q => ⟨by omega, ?_⟩⟩
  have hm := h v (by omega) (by omega)
  have h13 := hm.2.2.2.1
  refine lfp1_ind (fun u _ => (24 - u).toNat) (fun u τ => τ = σ ∧ (0 ≤ u ∧ u ≤ 24)) (fun K' u τ' hI' ih' => ?_) ⟨rfl, by decide⟩
  obtain ⟨e', hu⟩ := hI'
  rw [e']
  unfold wpbX3_firstPublicTwice_16
  refine ⟨by omega, by omega, by omega, fun _ => ih _ _ ⟨rfl, by omega⟩ (by omega), fun q' => ⟨by omega, ?_⟩⟩
  have hp := (hm.2.2.2.2.2.2.2 u hu.1 (by omega)).1
  exact c_publicModule h (by omega) hp (fun m m0 m1 _ => ⟨by omega, fun q => absurd m0 (by omega), fun _ => hQ _ (by omega)⟩) ⟨by decide, fun _ => ih' _ _ ⟨rfl, by omega⟩ (by omega), fun q => absurd (by decide) q⟩
theorem c_firstUnsolved {σ : ZS} {Q : Int → ZS → Prop} (h : M3 σ) (hQ : ∀ x : Int, (-1 ≤ x ∧ x ≤ 2) → Q x σ) : wpX3_firstUnsolved σ Q := by
  unfold wpX3_firstUnsolved wpX3_firstUnsolved_2
  refine lfp1_ind (fun v _ => (3 - v).toNat) (fun v τ => τ = σ ∧ (0 ≤ v ∧ v ≤ 3)) (fun K v τ hI ih => ?_) ⟨rfl, by decide⟩
  obtain ⟨e, hv⟩ := hI
  rw [e]
  unfold wpbX3_firstUnsolved_2 wpX3_firstUnsolved_16
  refine ⟨by omega, fun _ => hQ _ (by decide), fun q => ⟨by omega, ?_⟩⟩
  have hm := h v (by omega) (by omega)
  have h7 := hm.2.2.1
  refine lfp1_ind (fun u _ => (200 - u).toNat) (fun u τ => τ = σ ∧ (0 ≤ u ∧ u ≤ 200)) (fun K' u τ' hI' ih' => ?_) ⟨rfl, by decide⟩
  obtain ⟨e', hu⟩ := hI'
  rw [e']
  unfold wpbX3_firstUnsolved_16 wpX3_firstUnsolved_49
  refine ⟨by omega, by omega, by omega, fun _ => ih _ _ ⟨rfl, by omega⟩ (by omega), fun q' => ?_⟩
  have hp := hm.2.2.2.2.2.2.1 u hu.1 (by omega)
  have on : K' (u + 1) σ := ih' _ _ ⟨rfl, by omega⟩ (by omega)
  exact ⟨by omega, by omega, fun _ => on, fun _ => c_publicModule h (by decide) hp.2.2.2.2 (fun m m0 m1 _ => ⟨by omega, fun _ => on, fun _ => hQ _ (by omega)⟩) ⟨by decide, fun _ => on, fun _ => hQ _ (by omega)⟩⟩
theorem c_hasMain {σ : ZS} {Q : Int → ZS → Prop} (h : M3 σ) (hQ : ∀ x : Int, (0 ≤ x ∧ x ≤ 1) → Q x σ) : wpX3_hasMain σ Q := by
  unfold wpX3_hasMain wpX3_hasMain_16
  exact c_publicModule h (by decide) (by decide) (fun m m0 m1 _ => ⟨by omega, fun _ => ⟨by decide, hQ 0 (by decide)⟩, fun _ => ⟨by decide, hQ 1 (by decide)⟩⟩) ⟨by decide, fun _ => ⟨by decide, hQ 0 (by decide)⟩, fun _ => ⟨by decide, hQ 1 (by decide)⟩⟩
/-! combining -/
def LKc (σ : ZS) : Prop := (0 ≤ zI σ 16 4 ∧ zI σ 16 4 ≤ 72) ∧ (∀ i : Int, 0 ≤ i → i < 72 → 0 ≤ zA σ 16 1 i ∧ zA σ 16 1 i ≤ 4398046511103) ∧ (∀ i : Int, 0 ≤ i → i < 72 → 0 ≤ zA σ 16 2 i ∧ zA σ 16 2 i ≤ 30000) ∧ (∀ i : Int, 0 ≤ i → i < 72 → 0 ≤ zA σ 16 3 i ∧ zA σ 16 3 i ≤ 3000000) ∧ (∀ i : Int, 0 ≤ i → i < 72 → 0 ≤ zA σ 16 5 i ∧ zA σ 16 5 i ≤ 71) ∧ (∀ i : Int, 0 ≤ i → i < 72 → 0 ≤ zA σ 16 6 i ∧ zA σ 16 6 i ≤ 30000)
theorem LKc.k {σ τ : ZS} (h : LKc σ) (e : ob τ 16 = ob σ 16) : LKc τ := by
  have e1 := ob_I e; have e2 := ob_A e
  unfold LKc; simp only [e1, e2]; exact h
def CBp (σ τ : ZS) (a b : Int) : Prop := ∀ m s : Int, 0 ≤ m → m ≤ 2 → 0 ≤ s → s < zI σ m 1 → (m < a ∨ (m = a ∧ s < b)) → (0 ≤ zA τ 16 5 (m * 24 + s) ∧ zA τ 16 5 (m * 24 + s) < zI τ 16 4) ∧ zA τ 16 6 (m * 24 + s) + zA σ m 4 s ≤ zA τ 16 2 (zA τ 16 5 (m * 24 + s))
def CV (σ τ : ZS) (a b n : Int) : Prop := LKc τ ∧ kp [16] σ τ ∧ zI τ 16 4 ≤ n ∧ CBp σ τ a b ∧ (∀ c : Int, 0 ≤ c → c < zI τ 16 4 → zA τ 16 2 c ≤ 416 * (a * 24 + b))
theorem c_combinedNumber {σ τ : ZS} {a b w : Int} {Q : Int → ZS → Prop} (ha : 0 ≤ a ∧ a ≤ 2) (hb : 0 ≤ b ∧ b < 24) (hc : CV σ τ a b (a * 24 + b)) (hw : 0 ≤ w ∧ w ≤ 4398046511103) (hQ : ∀ (x : Int) (υ : ZS), CV σ υ a b (a * 24 + b + 1) → (0 ≤ x ∧ x < zI υ 16 4) → Q x υ) : wpX3_combinedNumber w τ Q := by
  obtain ⟨⟨k1, k2, k3, k4, k5, k6⟩, kk, kn, kc, ks⟩ := hc
  unfold wpX3_combinedNumber wpX3_combinedNumber_2
  refine lfp1_ind (fun v _ => (72 - v).toNat) (fun v υ => υ = τ ∧ (0 ≤ v ∧ v ≤ 72)) (fun K v υ hI ih => ?_) ⟨rfl, by decide⟩
  obtain ⟨e, hv⟩ := hI
  rw [e]
  unfold wpbX3_combinedNumber_2
  refine ⟨by omega, by omega, fun q => ⟨fun lt => ⟨by omega, ?_⟩, fun ge => absurd (show zI τ 16 4 < 72 by omega) ge⟩, fun q => ⟨by omega, ?_, by omega, fun _ => ih _ _ ⟨rfl, by omega⟩ (by omega), fun _ => hQ v τ ⟨⟨k1, k2, k3, k4, k5, k6⟩, kk, by omega, kc, ks⟩ (by omega)⟩⟩
  · refine hQ _ _ ⟨⟨?_, rng_zu k2 hw, rng_zu k3 (by decide), k4, k5, k6⟩, ((kk.ta (by decide)).ta (by decide)).ti (by decide), ?_, fun m s m0 m2 s0 s1 q' => ?_, fun c c0 c1 => ?_⟩ ?_
    · show 0 ≤ zI τ 16 4 + 1 ∧ zI τ 16 4 + 1 ≤ 72
      omega
    · show zI τ 16 4 + 1 ≤ a * 24 + b + 1
      omega
    · obtain ⟨x1, x2⟩ := kc m s m0 m2 s0 s1 q'
      show (0 ≤ zA τ 16 5 (m * 24 + s) ∧ zA τ 16 5 (m * 24 + s) < zI τ 16 4 + 1) ∧ zA τ 16 6 (m * 24 + s) + zA σ m 4 s ≤ zu (zA τ 16 2) (zI τ 16 4) 0 (zA τ 16 5 (m * 24 + s))
      rw [pu_ne (by omega)]
      exact ⟨by omega, x2⟩
    · show zu (zA τ 16 2) (zI τ 16 4) 0 c ≤ 416 * (a * 24 + b)
      have c1' : c < zI τ 16 4 + 1 := c1
      by_cases e' : c = zI τ 16 4
      · rw [e', pu_eq]; omega
      · rw [pu_ne e']; exact ks c c0 (by omega)
    · show 0 ≤ zI τ 16 4 + 1 - 1 ∧ zI τ 16 4 + 1 - 1 < zI τ 16 4 + 1
      omega
  · have := k2 v hv.1 (by omega)
    omega
theorem c_addPart {σ τ : ZS} {a b : Int} {Q : ZS → Prop} (hm : M3 σ) (ha : 0 ≤ a ∧ a ≤ 2) (hb : 0 ≤ b ∧ b < zI σ a 1) (hc : CV σ τ a b (a * 24 + b)) (hQ : ∀ υ : ZS, CV σ υ a (b + 1) (a * 24 + b + 1) → Q υ) : wpX3_addPart a b τ Q := by
  have mo := hm a ha.1 ha.2
  have h1 := mo.2.1
  have sg := mo.2.2.2.2.1 b hb.1 hb.2
  have na : a ∉ [(16 : Int)] := n_1 (by omega)
  have ea := hc.2.1 a na
  unfold wpX3_addPart wpX10_roundUp wpX3_part
  refine ⟨by omega, by omega, c_combinedNumber ha (by omega) hc (by rw [ob_A ea 2]; exact sg.1) (fun x υ uc ux => ?_)⟩
  obtain ⟨⟨k1, k2, k3, k4, k5, k6⟩, kk, kn, kc, ks⟩ := uc
  have eu := kk a na
  have zx := ks x ux.1 ux.2
  have zn := (k3 x ux.1 (by omega)).1
  rw [ob_A eu 3, z_up sg.2.1 (by omega)]
  have ub := up_bd sg.2.1 zn
  refine ⟨by omega, by omega, by omega, hQ _ ?_⟩
  have e4 : zA (zsA υ 16 5 (a * 24 + b) x) a 4 = zA σ a 4 := (zA_g (by omega)).trans (ob_A eu 4)
  rw [e4]
  have gx : ∀ c : Int, zA υ 16 2 c ≤ zu (zA υ 16 2) x ((zA υ 16 2 x + zA σ a 3 b - 1) / zA σ a 3 b * zA σ a 3 b + zA σ a 4 b) c := by
    intro c
    by_cases e : c = x
    · rw [e, pu_eq]; omega
    · rw [pu_ne e]; exact Int.le_refl _
  refine ⟨⟨k1, k2, rng_zu k3 (by omega), k4, rng_zu k5 (by omega), rng_zu k6 (by omega)⟩, ((kk.ta (by decide)).ta (by decide)).ta (by decide), by show zI υ 16 4 ≤ a * 24 + b + 1; omega, fun m s m0 m2 s0 s1 q => ?_, fun c c0 c1 => ?_⟩
  · show (0 ≤ zu (zA υ 16 5) (a * 24 + b) x (m * 24 + s) ∧ zu (zA υ 16 5) (a * 24 + b) x (m * 24 + s) < zI υ 16 4) ∧ zu (zA υ 16 6) (a * 24 + b) ((zA υ 16 2 x + zA σ a 3 b - 1) / zA σ a 3 b * zA σ a 3 b) (m * 24 + s) + zA σ m 4 s ≤ zu (zA υ 16 2) x ((zA υ 16 2 x + zA σ a 3 b - 1) / zA σ a 3 b * zA σ a 3 b + zA σ a 4 b) (zu (zA υ 16 5) (a * 24 + b) x (m * 24 + s))
    have hm24 := (hm m m0 m2).2.1
    by_cases e : m = a ∧ s = b
    · obtain ⟨rfl, rfl⟩ := e
      rw [pu_eq, pu_eq, pu_eq]
      exact ⟨ux, Int.le_refl _⟩
    · have ne : m * 24 + s ≠ a * 24 + b := by omega
      rw [pu_ne ne, pu_ne ne]
      obtain ⟨x1, x2⟩ := kc m s m0 m2 s0 s1 (by omega)
      exact ⟨x1, Int.le_trans x2 (gx _)⟩
  · show zu (zA υ 16 2) x ((zA υ 16 2 x + zA σ a 3 b - 1) / zA σ a 3 b * zA σ a 3 b + zA σ a 4 b) c ≤ 416 * (a * 24 + (b + 1))
    by_cases e : c = x
    · rw [e, pu_eq]; omega
    · rw [pu_ne e]
      have := ks c c0 c1
      omega
/-- where all parts lie -/
def PLC (τ : ZS) (x : Int) : Prop := ∀ m s : Int, 0 ≤ m → m ≤ 2 → 0 ≤ s → s < zI τ m 1 → zA τ 16 3 (zA τ 16 5 (m * 24 + s)) + zA τ 16 6 (m * 24 + s) + zA τ m 4 s ≤ x
theorem c_combine {σ : ZS} {Q : Int → ZS → Prop} (hm : M3 σ) (hl : LKc σ) (hQ : ∀ (x : Int) (τ : ZS), LKc τ → kp [16] σ τ → (0 ≤ x ∧ x ≤ 3000000) → PLC τ x → Q x τ) : wpX3_combine σ Q := by
  have f49 : ∀ τ : ZS, CV σ τ 3 0 72 → wpX3_combine_49 0 0 τ Q := by
    intro τ hc
    unfold wpX3_combine_49
    refine lfp2_ind (fun _ v _ => (72 - v).toNat) (fun e v υ => CV σ υ 3 0 72 ∧ (0 ≤ v ∧ v ≤ zI υ 16 4) ∧ (0 ≤ e ∧ e ≤ 30000 * v) ∧ ∀ c : Int, 0 ≤ c → c < v → zA υ 16 3 c + zA υ 16 2 c ≤ e) (fun K e v υ hI ih => ?_) ⟨hc, ⟨by decide, hc.1.1.1⟩, by decide, fun c c0 c1 => absurd c0 (by omega)⟩
    obtain ⟨⟨⟨k1, k2, k3, k4, k5, k6⟩, kk, kn, kc, ks⟩, hv, he, hp⟩ := hI
    unfold wpbX3_combine_49 wpX10_roundUp
    rw [z_up (a := 16) (by unfold al; decide) (by omega)]
    have ub := up_bd (a := 16) (v := e) (by unfold al; decide) he.1
    refine ⟨by omega, by omega, fun q => ?_, fun q => ⟨by omega, ih _ _ _ ⟨⟨⟨k1, k2, k3, rng_zu k4 (by omega), k5, k6⟩, kk.ta (by decide), kn, kc, ks⟩, ?_, ?_, fun c c0 c1 => ?_⟩ (by omega)⟩⟩
    · refine hQ e υ ⟨k1, k2, k3, k4, k5, k6⟩ kk (by omega) (fun m s m0 m2 s0 s1 => ?_)
      have em : ob υ m = ob σ m := kk m (n_1 (by omega))
      rw [ob_I em 1] at s1
      obtain ⟨x1, x2⟩ := kc m s m0 m2 s0 s1 (by omega)
      have := hp _ x1.1 (show zA υ 16 5 (m * 24 + s) < v by omega)
      rw [ob_A em 4]
      omega
    · show 0 ≤ v + 1 ∧ v + 1 ≤ zI υ 16 4
      omega
    · show 0 ≤ zu (zA υ 16 3) v ((e + 16 - 1) / 16 * 16) v + zA υ 16 2 v ∧ zu (zA υ 16 3) v ((e + 16 - 1) / 16 * 16) v + zA υ 16 2 v ≤ 30000 * (v + 1)
      rw [pu_eq]
      have := k3 v hv.1 (by omega)
      have := ks v hv.1 (by omega)
      omega
    · show zu (zA υ 16 3) v ((e + 16 - 1) / 16 * 16) c + zA υ 16 2 c ≤ zu (zA υ 16 3) v ((e + 16 - 1) / 16 * 16) v + zA υ 16 2 v
      rw [pu_eq]
      by_cases ec : c = v
      · rw [ec, pu_eq]; exact Int.le_refl _
      · rw [pu_ne ec]
        have := hp c c0 (by omega)
        have := (k3 v hv.1 (by omega)).1
        omega
  unfold wpX3_combine wpX3_combine_7
  refine lfp1_ind (fun v _ => (3 - v).toNat) (fun v τ => CV σ τ v 0 (v * 24) ∧ (0 ≤ v ∧ v ≤ 3)) (fun K v τ hI ih => ?_) ⟨⟨⟨(show (0 : Int) ≤ 0 ∧ (0 : Int) ≤ 72 by decide), hl.2⟩, kp.i (by decide), (show (0 : Int) ≤ 0 * 24 by decide), fun m s m0 m2 s0 s1 q => absurd s0 (by omega), fun c c0 c1 => absurd (show c < 0 from c1) (by omega)⟩, by decide⟩
  obtain ⟨cv, hv⟩ := hI
  unfold wpbX3_combine_7 wpX3_combine_14
  refine ⟨by omega, fun q => f49 τ (by rw [show v = 3 by omega] at cv; exact cv), fun q => ?_⟩
  have mo := (hm v hv.1 (by omega)).2.1
  refine lfp1_ind (fun u _ => (24 - u).toNat) (fun u υ => CV σ υ v u (v * 24 + u) ∧ (0 ≤ u ∧ u ≤ zI σ v 1)) (fun K' u υ hI' ih' => ?_) ⟨by rw [Int.add_zero]; exact cv, by decide, mo.1⟩
  obtain ⟨uv, u0, u1⟩ := hI'
  have eu := uv.2.1 v (n_1 (by omega))
  have e1 := ob_I eu 1
  unfold wpbX3_combine_14
  refine ⟨by omega, by omega, by omega, fun q' => ih _ _ ⟨?_, by omega⟩ (by omega), fun q' => c_addPart hm (by omega) ⟨u0, by omega⟩ uv (fun ω wv => ih' _ _ ⟨by rw [← Int.add_assoc]; exact wv, by omega, by omega⟩ (by omega))⟩
  obtain ⟨l1, l2, l3, l4, l5⟩ := uv
  refine ⟨l1, l2, by omega, fun m s m0 m2 s0 s1 q2 => l4 m s m0 m2 s0 s1 ?_, fun c c0 c1 => by have := l5 c c0 c1; omega⟩
  rcases q2 with q2 | q2
  · by_cases em : m = v
    · refine Or.inr ⟨em, ?_⟩
      rw [em] at s1
      omega
    · exact Or.inl (by omega)
  · exact absurd s0 (by omega)
