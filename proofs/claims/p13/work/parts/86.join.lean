/-! C: a module is written -/
def MSg (σ : ZS) (g : Int) : Prop := ∀ s : Int, 0 ≤ s → s < zI σ g 1 → (0 ≤ zA σ g 2 s ∧ zA σ g 2 s ≤ 4398046511103) ∧ al (zA σ g 3 s) ∧ 0 ≤ zA σ g 4 s ∧ 0 ≤ zA σ g 5 s ∧ zA σ g 5 s + zA σ g 4 s ≤ 400
def MBy (σ : ZS) (g : Int) : Prop := ∀ i : Int, 0 ≤ i → i < 400 → 0 ≤ zA σ g 6 i ∧ zA σ g 6 i ≤ 255
def MFx (σ : ZS) (g : Int) : Prop := ∀ k : Int, 0 ≤ k → k < zI σ g 7 → (0 ≤ zA σ g 8 k ∧ zA σ g 8 k ≤ 2) ∧ (0 ≤ zA σ g 9 k ∧ zA σ g 9 k < 24) ∧ (0 ≤ zA σ g 10 k ∧ zA σ g 10 k ≤ 20010) ∧ (-1 ≤ zA σ g 11 k ∧ zA σ g 11 k < 24) ∧ (0 ≤ zA σ g 12 k ∧ zA σ g 12 k ≤ 4398046511103)
def MPb (σ : ZS) (g : Int) : Prop := ∀ q : Int, 0 ≤ q → q < zI σ g 13 → (0 ≤ zA σ g 14 q ∧ zA σ g 14 q ≤ 4398046511103) ∧ (0 ≤ zA σ g 15 q ∧ zA σ g 15 q < 24) ∧ (0 ≤ zA σ g 16 q ∧ zA σ g 16 q ≤ 20000)
def MO (σ : ZS) (g : Int) : Prop := (0 ≤ zI σ g 0 ∧ zI σ g 0 ≤ 1) ∧ (0 ≤ zI σ g 1 ∧ zI σ g 1 ≤ 24) ∧ (0 ≤ zI σ g 7 ∧ zI σ g 7 ≤ 200) ∧ (0 ≤ zI σ g 13 ∧ zI σ g 13 ≤ 24) ∧ MSg σ g ∧ MBy σ g ∧ MFx σ g ∧ MPb σ g
theorem MO.k {σ τ : ZS} {g : Int} (h : MO σ g) (e : ob τ g = ob σ g) : MO τ g := by
  have e1 := ob_I e; have e2 := ob_A e
  unfold MO MSg MBy MFx MPb; simp only [e1, e2]; exact h
theorem m_1 {g : Int} : g ∈ [g] := List.mem_cons_self
theorem n_1 {g a : Int} (h : a ≠ g) : a ∉ [g] := fun q => h (List.mem_singleton.mp q)
theorem c_mclear {g : Int} {σ : ZS} {Q : ZS → Prop} (hg : 0 ≤ g ∧ g ≤ 2) (hQ : ∀ τ : ZS, MO τ g → kp [g] σ τ → zI τ g 0 = 0 → zI τ g 1 = 0 → zI τ g 7 = 0 → zI τ g 13 = 0 → Q τ) : wpX6_clear g σ Q := by
  unfold wpX6_clear
  refine ⟨hg, c_fillM hg (fun h hh => ?_)⟩
  have key : ∀ τ : ZS, kp [g] σ τ → zI τ g 0 = 0 → zI τ g 1 = 0 → zI τ g 7 = 0 → zI τ g 13 = 0 → zA τ g 6 = h → Q τ := by
    intro τ k e0 e1 e7 e13 e6
    refine hQ τ ⟨by omega, by omega, by omega, by omega, fun s s0 s1 => absurd s0 (by omega), fun i i0 i1 => ?_, fun s s0 s1 => absurd s0 (by omega), fun s s0 s1 => absurd s0 (by omega)⟩ k e0 e1 e7 e13
    rw [e6, hh i i0 i1]; decide
  have kk : kp [g] σ (zsF (zsI (zsI (zsI (zsI σ g 0 0) g 1 0) g 7 0) g 13 0) g 6 h) := ((((kp.rf.ti m_1).ti m_1).ti m_1).ti m_1).tf m_1
  obtain rfl | rfl | rfl : g = 0 ∨ g = 1 ∨ g = 2 := by omega
  · exact key _ kk rfl rfl rfl rfl rfl
  · exact key _ kk rfl rfl rfl rfl rfl
  · exact key _ kk rfl rfl rfl rfl rfl
theorem c_publicNumber {g w : Int} {σ : ZS} {Q : Int → ZS → Prop} (hg : 0 ≤ g ∧ g ≤ 2) (h : MO σ g) (hw : 0 ≤ w ∧ w ≤ 4398046511103) (h1 : ∀ x : Int, 0 ≤ x → x < zI σ g 13 → zA σ g 14 x = w → (∀ q : Int, 0 ≤ q → q < x → zA σ g 14 q ≠ w) → Q x σ) (h0 : (∀ q : Int, 0 ≤ q → q < zI σ g 13 → zA σ g 14 q ≠ w) → Q (-1) σ) : wpX6_publicNumber g w σ Q := by
  obtain ⟨a0, a1, a7, a13, b1, b2, b3, b4⟩ := h
  unfold wpX6_publicNumber wpX6_publicNumber_2
  refine lfp1_ind (fun v _ => (24 - v).toNat) (fun v τ => τ = σ ∧ (0 ≤ v ∧ v ≤ 24) ∧ ∀ q : Int, 0 ≤ q → q < v → zA σ g 14 q ≠ w) (fun K v τ hI ih => ?_) ⟨rfl, by decide, fun q q0 q1 => absurd q0 (by omega)⟩
  obtain ⟨e, hv, hq⟩ := hI
  rw [e]
  unfold wpbX6_publicNumber_2
  refine ⟨hg, by omega, by omega, fun _ => h0 (fun q q0 q1 => hq q q0 (by omega)), fun q => ⟨by omega, ?_, by omega, fun ne => ih _ _ ⟨rfl, by omega, fun j j0 j1 => ?_⟩ (by omega), fun e' => h1 v hv.1 (by omega) e' hq⟩⟩
  · have := (b4 v hv.1 (by omega)).1
    omega
  · by_cases ej : j = v
    · rw [ej]; exact ne
    · exact hq j j0 (by omega)
theorem c_addPublic {g w s o : Int} {σ : ZS} {Q : ZS → Prop} (hg : 0 ≤ g ∧ g ≤ 2) (h : MO σ g) (hw : 0 ≤ w ∧ w ≤ 4398046511103) (hs : 0 ≤ s ∧ s < 24) (ho : 0 ≤ o ∧ o ≤ 20000) (hQ : ∀ τ : ZS, MO τ g → kp [g] σ τ → zI τ g 1 = zI σ g 1 → Q τ) : wpX6_addPublic g w s o σ Q := by
  have h' := h
  obtain ⟨a0, a1, a7, a13, b1, b2, b3, b4⟩ := h'
  have key : ∀ τ : ZS, zI σ g 13 < 24 → kp [g] σ τ → zI τ g 0 = zI σ g 0 → zI τ g 1 = zI σ g 1 → zI τ g 7 = zI σ g 7 → zI τ g 13 = zI σ g 13 + 1 → zA τ g 14 = zu (zA σ g 14) (zI σ g 13) w → zA τ g 15 = zu (zA σ g 15) (zI σ g 13) s → zA τ g 16 = zu (zA σ g 16) (zI σ g 13) o → (zA τ g 6 = zA σ g 6 ∧ zA τ g 8 = zA σ g 8 ∧ zA τ g 9 = zA σ g 9 ∧ zA τ g 10 = zA σ g 10 ∧ zA τ g 11 = zA σ g 11 ∧ zA τ g 12 = zA σ g 12 ∧ zA τ g 2 = zA σ g 2 ∧ zA τ g 3 = zA σ g 3 ∧ zA τ g 4 = zA σ g 4 ∧ zA τ g 5 = zA σ g 5) → Q τ := by
    intro τ lt k e0 e1 e7 e13 f14 f15 f16 ⟨f6, f8, f9, f10, f11, f12, f2, f3, f4, f5⟩
    refine hQ τ ⟨by rw [e0]; exact a0, by rw [e1]; exact a1, by rw [e7]; exact a7, by omega, ?_, ?_, ?_, fun q q0 q1 => ?_⟩ k e1
    · unfold MSg; rw [e1, f2, f3, f4, f5]; exact b1
    · unfold MBy; rw [f6]; exact b2
    · unfold MFx; rw [e7, f8, f9, f10, f11, f12]; exact b3
    · rw [f14, f15, f16]
      by_cases e : q = zI σ g 13
      · rw [e, pu_eq, pu_eq, pu_eq]; exact ⟨hw, hs, ho⟩
      · rw [pu_ne e, pu_ne e, pu_ne e]; exact b4 q q0 (by omega)
  unfold wpX6_addPublic wpX6_addPublic_58
  refine ⟨hg, c_publicNumber hg h hw (fun x x0 x1 _ _ => ⟨by omega, fun _ => hQ σ h kp.rf rfl, fun q => absurd x0 q⟩) (fun _ => ⟨by decide, fun q => absurd q (by decide), fun _ => ⟨by omega, fun _ => hQ σ h kp.rf rfl, fun q => ⟨by omega, ?_⟩⟩⟩)⟩
  have kk : kp [g] σ (zsI (zsA (zsA (zsA σ g 14 (zI σ g 13) w) g 15 (zI σ g 13) s) g 16 (zI σ g 13) o) g 13 ((zI σ g 13) + 1)) := (((kp.rf.ta m_1).ta m_1).ta m_1).ti m_1
  have lt : zI σ g 13 < 24 := by omega
  clear hQ b1 b2 b3 b4 h
  obtain rfl | rfl | rfl : g = 0 ∨ g = 1 ∨ g = 2 := by omega
  · exact key _ lt kk rfl rfl rfl rfl rfl rfl rfl ⟨rfl, rfl, rfl, rfl, rfl, rfl, rfl, rfl, rfl, rfl⟩
  · exact key _ lt kk rfl rfl rfl rfl rfl rfl rfl ⟨rfl, rfl, rfl, rfl, rfl, rfl, rfl, rfl, rfl, rfl⟩
  · exact key _ lt kk rfl rfl rfl rfl rfl rfl rfl ⟨rfl, rfl, rfl, rfl, rfl, rfl, rfl, rfl, rfl, rfl⟩
theorem c_addFixup {g t s p a w : Int} {σ : ZS} {Q : ZS → Prop} (hg : 0 ≤ g ∧ g ≤ 2) (h : MO σ g) (ht : 0 ≤ t ∧ t ≤ 2) (hs : 0 ≤ s ∧ s < 24) (hp : 0 ≤ p ∧ p ≤ 20010) (ha : -1 ≤ a ∧ a < 24) (hw : 0 ≤ w ∧ w ≤ 4398046511103) (hQ : ∀ τ : ZS, MO τ g → kp [g] σ τ → zI τ g 1 = zI σ g 1 → Q τ) : wpX6_addFixup g t s p a w σ Q := by
  have h' := h
  obtain ⟨a0, a1, a7, a13, b1, b2, b3, b4⟩ := h'
  have key : ∀ τ : ZS, zI σ g 7 < 200 → kp [g] σ τ → zI τ g 0 = zI σ g 0 → zI τ g 1 = zI σ g 1 → zI τ g 7 = zI σ g 7 + 1 → zI τ g 13 = zI σ g 13 → zA τ g 8 = zu (zA σ g 8) (zI σ g 7) t → zA τ g 9 = zu (zA σ g 9) (zI σ g 7) s → zA τ g 10 = zu (zA σ g 10) (zI σ g 7) p → zA τ g 11 = zu (zA σ g 11) (zI σ g 7) a → zA τ g 12 = zu (zA σ g 12) (zI σ g 7) w → (zA τ g 6 = zA σ g 6 ∧ zA τ g 14 = zA σ g 14 ∧ zA τ g 15 = zA σ g 15 ∧ zA τ g 16 = zA σ g 16 ∧ zA τ g 2 = zA σ g 2 ∧ zA τ g 3 = zA σ g 3 ∧ zA τ g 4 = zA σ g 4 ∧ zA τ g 5 = zA σ g 5) → Q τ := by
    intro τ lt k e0 e1 e7 e13 f8 f9 f10 f11 f12 ⟨f6, f14, f15, f16, f2, f3, f4, f5⟩
    refine hQ τ ⟨by rw [e0]; exact a0, by rw [e1]; exact a1, by omega, by rw [e13]; exact a13, ?_, ?_, fun q q0 q1 => ?_, ?_⟩ k e1
    · unfold MSg; rw [e1, f2, f3, f4, f5]; exact b1
    · unfold MBy; rw [f6]; exact b2
    · rw [f8, f9, f10, f11, f12]
      by_cases e : q = zI σ g 7
      · rw [e, pu_eq, pu_eq, pu_eq, pu_eq, pu_eq]; exact ⟨ht, hs, hp, ha, hw⟩
      · rw [pu_ne e, pu_ne e, pu_ne e, pu_ne e, pu_ne e]; exact b3 q q0 (by omega)
    · unfold MPb; rw [e13, f14, f15, f16]; exact b4
  unfold wpX6_addFixup wpX6_addFixup_72
  refine ⟨hg, by omega, fun _ => hQ σ h kp.rf rfl, fun q => ⟨by omega, ?_⟩⟩
  have kk : kp [g] σ (zsI (zsA (zsA (zsA (zsA (zsA σ g 8 (zI σ g 7) t) g 9 (zI σ g 7) s) g 10 (zI σ g 7) p) g 11 (zI σ g 7) a) g 12 (zI σ g 7) w) g 7 ((zI σ g 7) + 1)) := (((((kp.rf.ta m_1).ta m_1).ta m_1).ta m_1).ta m_1).ti m_1
  have lt : zI σ g 7 < 200 := by omega
  clear hQ b1 b2 b3 b4 h
  obtain rfl | rfl | rfl : g = 0 ∨ g = 1 ∨ g = 2 := by omega
  · exact key _ lt kk rfl rfl rfl rfl rfl rfl rfl rfl rfl ⟨rfl, rfl, rfl, rfl, rfl, rfl, rfl, rfl⟩
  · exact key _ lt kk rfl rfl rfl rfl rfl rfl rfl rfl rfl ⟨rfl, rfl, rfl, rfl, rfl, rfl, rfl, rfl⟩
  · exact key _ lt kk rfl rfl rfl rfl rfl rfl rfl rfl rfl ⟨rfl, rfl, rfl, rfl, rfl, rfl, rfl, rfl⟩
theorem c_putByte {g s o b : Int} {σ : ZS} {Q : ZS → Prop} (hg : 0 ≤ g ∧ g ≤ 2) (h : MO σ g) (hs : 0 ≤ s ∧ s < 24) (ho : 0 ≤ o ∧ o ≤ 21000) (hQ : ∀ τ : ZS, MO τ g → kp [g] σ τ → zI τ g 1 = zI σ g 1 → Q τ) : wpX6_putByte g s o b σ Q := by
  have h' := h
  obtain ⟨a0, a1, a7, a13, b1, b2, b3, b4⟩ := h'
  have fin : ∀ i : Int, Q (zsA σ g 6 i (b % 256)) := by
    intro i
    refine hQ _ ?_ (kp.a m_1) rfl
    refine ⟨a0, a1, a7, a13, ?_, ?_, ?_, ?_⟩
    · unfold MSg; rw [zA_f (by decide), zA_f (by decide), zA_f (by decide), zA_f (by decide)]; exact b1
    · unfold MBy; rw [zA_s]; exact rng_zu b2 (by omega)
    · unfold MFx; rw [zA_f (by decide), zA_f (by decide), zA_f (by decide), zA_f (by decide), zA_f (by decide)]; exact b3
    · unfold MPb; rw [zA_f (by decide), zA_f (by decide), zA_f (by decide)]; exact b4
  unfold wpX6_putByte wpX6_putByte_40
  refine ⟨hg, by omega, by omega, fun _ => hQ σ h kp.rf rfl, fun q => ?_⟩
  have := b1 s hs.1 (by omega)
  exact ⟨by omega, by omega, fun _ => hQ σ h kp.rf rfl, fun _ => ⟨by omega, fin _⟩⟩
theorem LZ.k {σ τ : ZS} (h : LZ σ) (e11 : ob τ 11 = ob σ 11) (e13 : ob τ 13 = ob σ 13) (e15 : ob τ 15 = ob σ 15) : LZ τ := by
  have x1 := ob_I e11; have x2 := ob_A e11; have y1 := ob_I e13; have y2 := ob_A e13; have z1 := ob_I e15; have z2 := ob_A e15
  unfold LZ LY NR NS DJ DIw LRg RO SN DS UR
  simp only [x1, x2, y1, y2, z1, z2]
  exact h
theorem LZ.kg {σ τ : ZS} {g : Int} (h : LZ σ) (hg : 0 ≤ g ∧ g ≤ 2) (k : kp [g] σ τ) : LZ τ := h.k (k 11 (n_1 (by omega))) (k 13 (n_1 (by omega))) (k 15 (n_1 (by omega)))
theorem LZ.few {σ : ZS} (h : LZ σ) : zI σ 15 4 ≤ 24 := by
  obtain ⟨⟨a1, a2, a3, a4, a5, a6, a7, a8, a9⟩, hd, hu, hw⟩ := h
  have := pigeon (f := zA σ 15 2) (g := zA σ 11 2) (n := zI σ 15 4) (k := zI σ 11 5) a4.1 a2.1.1 (fun s s0 s1 => ⟨(a9 s s0 s1).1, (a9 s s0 s1).2.2⟩)
  have h25 : ¬ 25 ≤ zI σ 11 5 := fun q => by have := a6 (a2.2.2 q); omega
  omega
/-- names' segments -/
theorem LZ.sg {σ : ZS} {n : Int} (h : LZ σ) (n0 : 0 ≤ n) (n1 : n < zI σ 11 5) : -1 ≤ zA σ 11 2 n ∧ zA σ 11 2 n < 24 := by
  have hf := h.few
  have hs := h.1.2.2.2.1
  obtain ⟨b0, b1, b2, b3⟩ := h.1.2.2.2.2.2.2.2.1 n n0 n1
  have hr := (h.1.1 n n0 (by have := h.1.2.1.1; omega)).2.1
  rcases (by omega : zA σ 11 1 n = 0 ∨ zA σ 11 1 n = 1 ∨ zA σ 11 1 n = 2 ∨ zA σ 11 1 n = 3) with e | e | e | e
  · have := b0 e; omega
  · have := b1 e; omega
  · have := b2 e; omega
  · have := b3 e; omega
/-! C: the linker -/
theorem z_bn {a : Int} (h : 0 ≤ a ∧ a ≤ 1073741824) : (Int32.ofInt a).toBitVec.toNat = a.toNat := by
  have e : ((Int32.ofInt a).toBitVec.toNat : Int) = a % 4294967296 := by
    show ((BitVec.ofInt 32 a).toNat : Int) = _
    rw [BitVec.toNat_ofInt, Int.toNat_of_nonneg (Int.emod_nonneg _ (by decide))]
    rfl
  omega
theorem z_hi {x y : Int} (k M : Nat) (hk : k ≤ 4) (ht : ∀ i : Nat, i < 32 → M.testBit i = decide (k ≤ i)) (hy : (Int32.ofInt y).toBitVec.toNat = M) (hx : 0 ≤ x ∧ x ≤ 1073741824) : zand x y = ((x.toNat / 2 ^ k * 2 ^ k : Nat) : Int) := by
  have hle : x.toNat / 2 ^ k * 2 ^ k ≤ x.toNat := Nat.div_mul_le_self _ _
  have key : Int32.ofInt x &&& Int32.ofInt y = Int32.ofInt ((x.toNat / 2 ^ k * 2 ^ k : Nat) : Int) := by
    apply Int32.toBitVec_inj.mp
    apply BitVec.eq_of_toNat_eq
    rw [Int32.toBitVec_and, BitVec.toNat_and, hy, z_bn hx, z_bn (by omega), Int.toNat_natCast]
    apply Nat.eq_of_testBit_eq
    intro i
    rw [Nat.testBit_and, ← Nat.shiftLeft_eq, ← Nat.shiftRight_eq_div_pow, Nat.testBit_shiftLeft, Nat.testBit_shiftRight]
    by_cases hi : i < 32
    · rw [ht i hi]
      by_cases hki : k ≤ i
      · rw [show k + (i - k) = i by omega]; simp [hki]
      · simp [hki]
    · have q : x.toNat.testBit i = false := Nat.testBit_lt_two_pow (Nat.lt_of_lt_of_le (show x.toNat < 2 ^ 32 by omega) (Nat.pow_le_pow_right (by decide) (by omega)))
      rw [q, show k + (i - k) = i by omega, q]; simp
  unfold zand
  rw [key, z_ti (by omega)]
theorem z_up {v a : Int} (ha : al a) (hv : 0 ≤ v ∧ v ≤ 1000000000) : zand (v + a - 1) (-a) = (v + a - 1) / a * a := by
  unfold al at ha
  rcases ha with rfl | rfl | rfl | rfl | rfl
  · rw [z_hi 0 4294967295 (by decide) (by decide) (by decide) (by omega)]
    show (((v + 1 - 1).toNat / 1 * 1 : Nat) : Int) = _
    omega
  · rw [z_hi 1 4294967294 (by decide) (by decide) (by decide) (by omega)]
    show (((v + 2 - 1).toNat / 2 * 2 : Nat) : Int) = _
    omega
  · rw [z_hi 2 4294967292 (by decide) (by decide) (by decide) (by omega)]
    show (((v + 4 - 1).toNat / 4 * 4 : Nat) : Int) = _
    omega
  · rw [z_hi 3 4294967288 (by decide) (by decide) (by decide) (by omega)]
    show (((v + 8 - 1).toNat / 8 * 8 : Nat) : Int) = _
    omega
  · rw [z_hi 4 4294967280 (by decide) (by decide) (by decide) (by omega)]
    show (((v + 16 - 1).toNat / 16 * 16 : Nat) : Int) = _
    omega
theorem up_bd {v a : Int} (ha : al a) (hv : 0 ≤ v) : v ≤ (v + a - 1) / a * a ∧ (v + a - 1) / a * a ≤ v + 15 := by
  unfold al at ha
  rcases ha with rfl | rfl | rfl | rfl | rfl <;> omega
def M3 (σ : ZS) : Prop := ∀ m : Int, 0 ≤ m → m ≤ 2 → MO σ m
theorem M3.k {σ τ : ZS} {G : List Int} (h : M3 σ) (k : kp G σ τ) (h0 : (0 : Int) ∉ G) (h1 : (1 : Int) ∉ G) (h2 : (2 : Int) ∉ G) : M3 τ := by
  intro m m0 m2
  obtain rfl | rfl | rfl : m = 0 ∨ m = 1 ∨ m = 2 := by omega
  · exact (h 0 m0 m2).k (k 0 h0)
  · exact (h 1 m0 m2).k (k 1 h1)
  · exact (h 2 m0 m2).k (k 2 h2)
/-! combining -/
def LKc (σ : ZS) : Prop := (0 ≤ zI σ 16 4 ∧ zI σ 16 4 ≤ 72) ∧ (∀ i : Int, 0 ≤ i → i < 72 → 0 ≤ zA σ 16 1 i ∧ zA σ 16 1 i ≤ 4398046511103) ∧ (∀ i : Int, 0 ≤ i → i < 72 → 0 ≤ zA σ 16 2 i ∧ zA σ 16 2 i ≤ 30000) ∧ (∀ i : Int, 0 ≤ i → i < 72 → 0 ≤ zA σ 16 3 i ∧ zA σ 16 3 i ≤ 3000000) ∧ (∀ i : Int, 0 ≤ i → i < 72 → 0 ≤ zA σ 16 5 i ∧ zA σ 16 5 i ≤ 71) ∧ (∀ i : Int, 0 ≤ i → i < 72 → 0 ≤ zA σ 16 6 i ∧ zA σ 16 6 i ≤ 30000)
theorem LKc.k {σ τ : ZS} (h : LKc σ) (e : ob τ 16 = ob σ 16) : LKc τ := by
  have e1 := ob_I e; have e2 := ob_A e
  unfold LKc; simp only [e1, e2]; exact h
def CBp (σ τ : ZS) (a b : Int) : Prop := ∀ m s : Int, 0 ≤ m → m ≤ 2 → 0 ≤ s → s < zI σ m 1 → (m < a ∨ (m = a ∧ s < b)) → (0 ≤ zA τ 16 5 (m * 24 + s) ∧ zA τ 16 5 (m * 24 + s) < zI τ 16 4) ∧ zA τ 16 6 (m * 24 + s) + zA σ m 4 s ≤ zA τ 16 2 (zA τ 16 5 (m * 24 + s))
def CV (σ τ : ZS) (a b n : Int) : Prop := LKc τ ∧ kp [16] σ τ ∧ zI τ 16 4 ≤ n ∧ CBp σ τ a b ∧ (∀ c : Int, 0 ≤ c → c < zI τ 16 4 → zA τ 16 2 c ≤ 416 * (a * 24 + b))
/-- where all parts lie -/
def PLC (τ : ZS) (x : Int) : Prop := ∀ m s : Int, 0 ≤ m → m ≤ 2 → 0 ≤ s → s < zI τ m 1 → zA τ 16 3 (zA τ 16 5 (m * 24 + s)) + zA τ 16 6 (m * 24 + s) + zA τ m 4 s ≤ x
/-! C: the image -/
def IMc (σ : ZS) : Prop := (0 ≤ zI σ 17 0 ∧ zI σ 17 0 ≤ 1) ∧ (0 ≤ zI σ 17 1 ∧ zI σ 17 1 ≤ 1200) ∧ (∀ i : Int, 0 ≤ i → i < 1200 → 0 ≤ zA σ 17 2 i ∧ zA σ 17 2 i ≤ 255) ∧ (0 ≤ zI σ 17 3 ∧ zI σ 17 3 ≤ 600) ∧ (∀ i : Int, 0 ≤ i → i < 600 → 0 ≤ zA σ 17 4 i ∧ zA σ 17 4 i ≤ 4000000) ∧ (0 ≤ zI σ 17 5 ∧ zI σ 17 5 ≤ 200000) ∧ (0 ≤ zI σ 17 6 ∧ zI σ 17 6 ≤ 100000)
theorem IMc.k {σ τ : ZS} (h : IMc σ) (e : ob τ 17 = ob σ 17) : IMc τ := by
  have e1 := ob_I e; have e2 := ob_A e
  unfold IMc; simp only [e1, e2]; exact h
theorem zcpy_bd {f h : Int → Int} {sp dp n : Int} (hf : ∀ i : Int, 0 ≤ i → i < 400 → 0 ≤ f i ∧ f i ≤ 255) (hh : ∀ i : Int, 0 ≤ i → i < 1200 → 0 ≤ h i ∧ h i ≤ 255) (hs : 0 ≤ sp ∧ sp + n ≤ 400) : ∀ i : Int, 0 ≤ i → i < 1200 → 0 ≤ zcpy f h sp dp n i ∧ zcpy f h sp dp n i ≤ 255 := by
  intro i i0 i1
  unfold zcpy
  by_cases e : dp ≤ i ∧ i < dp + n
  · rw [if_pos e]; exact hf _ (by omega) (by omega)
  · rw [if_neg e]; exact hh i i0 i1
/-! C: the machine -/
def CM (σ : ZS) (N : Int) : Prop := (∀ i : Int, 0 ≤ i → i < 4096 → 0 ≤ zA σ 18 0 i ∧ zA σ 18 0 i ≤ 255) ∧ (∀ i : Int, 0 ≤ i → i < 8 → 0 ≤ zA σ 18 1 i ∧ zA σ 18 1 i ≤ 65535) ∧ (∀ i : Int, 0 ≤ i → i < 4 → 0 ≤ zA σ 18 2 i ∧ zA σ 18 2 i ≤ 300000) ∧ (0 ≤ zI σ 18 3 ∧ zI σ 18 3 ≤ 100000) ∧ (0 ≤ zI σ 18 4 ∧ zI σ 18 4 ≤ 1) ∧ (0 ≤ zI σ 18 5 ∧ zI σ 18 5 ≤ 1) ∧ (0 ≤ zI σ 18 6 ∧ zI σ 18 6 ≤ 1) ∧ (0 ≤ zI σ 18 7 ∧ zI σ 18 7 ≤ 1) ∧ (0 ≤ zI σ 18 9 ∧ zI σ 18 9 ≤ N) ∧ (0 ≤ zI σ 18 11 ∧ zI σ 18 11 ≤ 7) ∧ (-1 ≤ zI σ 18 12 ∧ zI σ 18 12 ≤ 7)
theorem CM.k {σ τ : ZS} {N : Int} (h : CM σ N) (e : ob τ 18 = ob σ 18) : CM τ N := by
  have e1 := ob_I e; have e2 := ob_A e
  unfold CM; simp only [e1, e2]; exact h
def CG (σ : ZS) (N : Int) (τ : ZS) : Prop := CM τ N ∧ kp [18] σ τ
theorem CG.rf {σ : ZS} {N : Int} (h : CM σ N) : CG σ N σ := ⟨h, kp.rf⟩
theorem CG.tr {σ τ υ : ZS} {N : Int} (h : CG σ N τ) (k : CG τ N υ) : CG σ N υ := ⟨k.1, h.2.tr k.2⟩
theorem CG.u0 {σ τ : ZS} {N i v : Int} (h : CG σ N τ) (hv : 0 ≤ v ∧ v ≤ 255) : CG σ N (zsA τ 18 0 i v) := by
  obtain ⟨⟨h0, h1, h2, h3, h4, h5, h6, h7, h8, h9, h10⟩, k⟩ := h
  exact ⟨⟨rng_zu h0 hv, h1, h2, h3, h4, h5, h6, h7, h8, h9, h10⟩, k.ta (by decide)⟩
theorem CG.u2 {σ τ : ZS} {N i v : Int} (h : CG σ N τ) (hv : 0 ≤ v ∧ v ≤ 300000) : CG σ N (zsA τ 18 2 i v) := by
  obtain ⟨⟨h0, h1, h2, h3, h4, h5, h6, h7, h8, h9, h10⟩, k⟩ := h
  exact ⟨⟨h0, h1, rng_zu h2 hv, h3, h4, h5, h6, h7, h8, h9, h10⟩, k.ta (by decide)⟩
theorem CG.i3 {σ τ : ZS} {N v : Int} (h : CG σ N τ) (hv : 0 ≤ v ∧ v ≤ 100000) : CG σ N (zsI τ 18 3 v) := by
  obtain ⟨⟨h0, h1, h2, h3, h4, h5, h6, h7, h8, h9, h10⟩, k⟩ := h
  exact ⟨⟨h0, h1, h2, hv, h4, h5, h6, h7, h8, h9, h10⟩, k.ti (by decide)⟩
theorem CG.i4 {σ τ : ZS} {N v : Int} (h : CG σ N τ) (hv : 0 ≤ v ∧ v ≤ 1) : CG σ N (zsI τ 18 4 v) := by
  obtain ⟨⟨h0, h1, h2, h3, h4, h5, h6, h7, h8, h9, h10⟩, k⟩ := h
  exact ⟨⟨h0, h1, h2, h3, hv, h5, h6, h7, h8, h9, h10⟩, k.ti (by decide)⟩
theorem CG.i5 {σ τ : ZS} {N v : Int} (h : CG σ N τ) (hv : 0 ≤ v ∧ v ≤ 1) : CG σ N (zsI τ 18 5 v) := by
  obtain ⟨⟨h0, h1, h2, h3, h4, h5, h6, h7, h8, h9, h10⟩, k⟩ := h
  exact ⟨⟨h0, h1, h2, h3, h4, hv, h6, h7, h8, h9, h10⟩, k.ti (by decide)⟩
theorem CG.i6 {σ τ : ZS} {N v : Int} (h : CG σ N τ) (hv : 0 ≤ v ∧ v ≤ 1) : CG σ N (zsI τ 18 6 v) := by
  obtain ⟨⟨h0, h1, h2, h3, h4, h5, h6, h7, h8, h9, h10⟩, k⟩ := h
  exact ⟨⟨h0, h1, h2, h3, h4, h5, hv, h7, h8, h9, h10⟩, k.ti (by decide)⟩
theorem CG.i7 {σ τ : ZS} {N v : Int} (h : CG σ N τ) (hv : 0 ≤ v ∧ v ≤ 1) : CG σ N (zsI τ 18 7 v) := by
  obtain ⟨⟨h0, h1, h2, h3, h4, h5, h6, h7, h8, h9, h10⟩, k⟩ := h
  exact ⟨⟨h0, h1, h2, h3, h4, h5, h6, hv, h8, h9, h10⟩, k.ti (by decide)⟩
theorem CG.i9 {σ τ : ZS} {N v : Int} (h : CG σ N τ) (hv : 0 ≤ v ∧ v ≤ N) : CG σ N (zsI τ 18 9 v) := by
  obtain ⟨⟨h0, h1, h2, h3, h4, h5, h6, h7, h8, h9, h10⟩, k⟩ := h
  exact ⟨⟨h0, h1, h2, h3, h4, h5, h6, h7, hv, h9, h10⟩, k.ti (by decide)⟩
theorem CG.i11 {σ τ : ZS} {N v : Int} (h : CG σ N τ) (hv : 0 ≤ v ∧ v ≤ 7) : CG σ N (zsI τ 18 11 v) := by
  obtain ⟨⟨h0, h1, h2, h3, h4, h5, h6, h7, h8, h9, h10⟩, k⟩ := h
  exact ⟨⟨h0, h1, h2, h3, h4, h5, h6, h7, h8, hv, h10⟩, k.ti (by decide)⟩
theorem CG.i12 {σ τ : ZS} {N v : Int} (h : CG σ N τ) (hv : -1 ≤ v ∧ v ≤ 7) : CG σ N (zsI τ 18 12 v) := by
  obtain ⟨⟨h0, h1, h2, h3, h4, h5, h6, h7, h8, h9, h10⟩, k⟩ := h
  exact ⟨⟨h0, h1, h2, h3, h4, h5, h6, h7, h8, h9, hv⟩, k.ti (by decide)⟩
theorem CG.i8 {σ τ : ZS} {N v : Int} (h : CG σ N τ) : CG σ N (zsI τ 18 8 v) := ⟨h.1, h.2.ti (by decide)⟩
theorem CG.i13 {σ τ : ZS} {N v : Int} (h : CG σ N τ) : CG σ N (zsI τ 18 13 v) := ⟨h.1, h.2.ti (by decide)⟩
theorem CM.mo {σ : ZS} {N M : Int} (h : CM σ N) (hM : N ≤ M) : CM σ M := by
  obtain ⟨h0, h1, h2, h3, h4, h5, h6, h7, h8, h9, h10⟩ := h
  exact ⟨h0, h1, h2, h3, h4, h5, h6, h7, ⟨h8.1, Int.le_trans h8.2 hM⟩, h9, h10⟩
theorem CG.mo {σ τ : ZS} {N M : Int} (h : CG σ N τ) (hM : N ≤ M) : CG σ M τ := ⟨h.1.mo hM, h.2⟩
theorem CM.c {σ : ZS} {N : Int} (h : CM σ N) (i : Int) : 0 ≤ zA σ 18 0 (i % 4096) ∧ zA σ 18 0 (i % 4096) ≤ 255 := h.1 _ (by omega) (by omega)
theorem CM.g {σ : ZS} {N i : Int} (h : CM σ N) (h0 : 0 ≤ i) (h1 : i < 8) : 0 ≤ zA σ 18 1 i ∧ zA σ 18 1 i ≤ 65535 := h.2.1 i h0 h1
theorem CM.s {σ : ZS} {N i : Int} (h : CM σ N) (h0 : 0 ≤ i) (h1 : i < 4) : 0 ≤ zA σ 18 2 i ∧ zA σ 18 2 i ≤ 300000 := h.2.2.1 i h0 h1
theorem CM.ip {σ : ZS} {N : Int} (h : CM σ N) : 0 ≤ zI σ 18 3 ∧ zI σ 18 3 ≤ 100000 := h.2.2.2.1
/-! C: the class's face -/
def CI (σ : ZS) (N : Int) : Prop := TX σ ∧ NR σ ∧ LRg σ ∧ M3 σ ∧ LKc σ ∧ IMc σ ∧ CM σ N
theorem LRg.k {σ τ : ZS} (h : LRg σ) (e : ob τ 15 = ob σ 15) : LRg τ := by
  have e2 := ob_A e
  unfold LRg; simp only [e2]; exact h
theorem c_isModule {a : Int} {σ : ZS} {Q : Int → ZS → Prop} (ha : -2147483648 ≤ a ∧ a ≤ 2147483647) (h1 : 0 ≤ a → a ≤ 2 → Q 1 σ) (h0 : ¬ (0 ≤ a ∧ a ≤ 2) → Q 0 σ) : wpX10_isModule a σ Q := by
  unfold wpX10_isModule wpX10_isModule_13 wpX10_isModule_14
  exact ⟨ha, fun _ => ⟨by decide, h0 (by omega)⟩, fun _ => ⟨fun _ => ⟨by decide, h0 (by omega)⟩, fun _ => ⟨by decide, h1 (by omega) (by omega)⟩⟩⟩
/-! the two sides' append, in full -/
theorem z_b8 (b : BitVec 64) (s : Nat) (hs : s ≤ 56) : (b >>> s).toInt % 256 = (b.sshiftRight s).toInt % 256 := by
  have m : ∀ c : BitVec 64, c.toInt % 256 = ((c.toNat % 256 : Nat) : Int) := by
    intro c
    have := c.isLt
    rw [BitVec.toInt_eq_toNat_cond]
    split <;> omega
  rw [m, m]
  have e : ∀ c : BitVec 64, c.toNat % 256 = (c.setWidth 8).toNat := fun c => by rw [BitVec.toNat_setWidth]
  rw [e, e]
  have q : (b >>> s).setWidth 8 = (b.sshiftRight s).setWidth 8 := by
    apply BitVec.eq_of_getLsbD_eq
    intro i hi
    rw [BitVec.getLsbD_setWidth, BitVec.getLsbD_setWidth, BitVec.getLsbD_sshiftRight, BitVec.getLsbD_ushiftRight, if_pos (show s + i < 64 by omega)]
    have : ¬ 64 ≤ i := by omega
    simp [hi, this]
  rw [q]
theorem z_lb {v j : Int} (h : 0 ≤ j ∧ j ≤ 7) : zlushr v (8 * j) % 256 = zlshr v (8 * j) % 256 := by
  have key : ∀ (s : Nat), s ≤ 56 → (((Int32.ofInt (8 * j)).toInt64 &&& 63).toBitVec.smod 64).toNat = s → (((Int32.ofInt (8 * j)).toInt64.toUInt64 &&& Int64.toUInt64 63).toBitVec % 64).toNat = s → zlushr v (8 * j) % 256 = zlshr v (8 * j) % 256 := by
    intro s hs e1 e2
    have r := z_b8 (Int64.ofInt v).toBitVec s hs
    show ((Int64.ofInt v).toBitVec >>> (((Int32.ofInt (8 * j)).toInt64.toUInt64 &&& Int64.toUInt64 63).toBitVec % 64).toNat).toInt % 256 = ((Int64.ofInt v).toBitVec.sshiftRight (((Int32.ofInt (8 * j)).toInt64 &&& 63).toBitVec.smod 64).toNat).toInt % 256
    rw [e1, e2]; exact r
  obtain rfl | rfl | rfl | rfl | rfl | rfl | rfl | rfl : j = 0 ∨ j = 1 ∨ j = 2 ∨ j = 3 ∨ j = 4 ∨ j = 5 ∨ j = 6 ∨ j = 7 := by omega
  · exact key 0 (by decide) (by decide) (by decide)
  · exact key 8 (by decide) (by decide) (by decide)
  · exact key 16 (by decide) (by decide) (by decide)
  · exact key 24 (by decide) (by decide) (by decide)
  · exact key 32 (by decide) (by decide) (by decide)
  · exact key 40 (by decide) (by decide) (by decide)
  · exact key 48 (by decide) (by decide) (by decide)
  · exact key 56 (by decide) (by decide) (by decide)
def apok (v n : Int) : Prop := (1 ≤ n ∧ n ≤ 8) ∧ ∀ j : Int, 0 ≤ j → j < n → 32 ≤ zlshr v (8 * j) % 256 ∧ zlshr v (8 * j) % 256 ≤ 126
def apT (h : Int → Int) (l v n m : Int) : Int → Int := fun j => if l ≤ j ∧ j < l + m then zlshr v (8 * (n - 1 - (j - l))) % 256 else h j
theorem apT_0 {h : Int → Int} {l v n : Int} : apT h l v n 0 = h := by
  funext j
  exact if_neg (by omega)
theorem apT_s {h : Int → Int} {l v n m : Int} (hm : 0 ≤ m) : zu (apT h l v n m) (l + m) (zlshr v (8 * (n - 1 - m)) % 256) = apT h l v n (m + 1) := by
  funext j
  show (if j = l + m then _ else (if l ≤ j ∧ j < l + m then _ else h j)) = (if l ≤ j ∧ j < l + (m + 1) then _ else h j)
  by_cases e : j = l + m
  · rw [if_pos e, if_pos (by omega), e, show l + m - l = m by omega]
  · rw [if_neg e]
    by_cases e' : l ≤ j ∧ j < l + m
    · rw [if_pos e', if_pos (by omega)]
    · rw [if_neg e', if_neg (by omega)]
/-! the class's other methods -/
theorem CI.mo {σ : ZS} {N M : Int} (h : CI σ N) (hM : N ≤ M) : CI σ M := ⟨h.1, h.2.1, h.2.2.1, h.2.2.2.1, h.2.2.2.2.1, h.2.2.2.2.2.1, h.2.2.2.2.2.2.mo hM⟩
theorem CI.m {σ τ : ZS} {N M : Int} (h : CI σ N) (g : CG σ M τ) : CI τ M ∧ (zI τ 10 1 = zI σ 10 1 ∧ zA τ 10 0 = zA σ 10 0) := by
  obtain ⟨r0, r1, r2, r3, r4, r5, r6⟩ := h
  have k := g.2
  exact ⟨⟨r0.k (k 10 (by decide)), r1.k (k 11 (by decide)), r2.k (k 15 (by decide)), r3.k k (by decide) (by decide) (by decide), r4.k (k 16 (by decide)), r5.k (k 17 (by decide)), g.1⟩, k.I (by decide) 1, k.A (by decide) 0⟩
theorem c_count {σ : ZS} {N a : Int} {Q : Int → ZS → Prop} {X : String → ZS → Prop} (h : CI σ N) (ha : -2147483648 ≤ a ∧ a ≤ 2147483647) (hQ : ∀ x : Int, Q x σ) (hX : X xIAE σ) : wpX10_count a σ Q X := by
  have c7 := h.2.2.2.2.2.2.2.2.2.2.2.2.2.1
  unfold wpX10_count wpX10_count_10 wpX10_count_166
  exact ⟨ha, fun _ => hX, fun _ => ⟨fun _ => ⟨fun _ => ⟨fun _ => ⟨fun _ => hQ _, fun _ => ⟨fun _ => hQ _, fun _ => ⟨fun _ => hQ _, fun _ => ⟨fun _ => hQ _, fun _ => ⟨fun _ => hQ _, fun _ => ⟨fun _ => hQ _, fun _ => ⟨fun _ => hQ _, fun _ => ⟨by omega, fun _ => hQ _, fun _ => hQ _⟩⟩⟩⟩⟩⟩⟩⟩, fun _ => ⟨by omega, hQ _⟩⟩, fun _ => ⟨by omega, hQ _⟩⟩, fun _ => hX⟩⟩
