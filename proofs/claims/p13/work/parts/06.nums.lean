/-! facts on toInt -/
theorem gi_lt {a b : Int32} {x y : Int} (ha : a.toInt = x) (hb : b.toInt = y) (h : a < b) : x < y := by rw [← ha, ← hb]; exact Int32.lt_iff_toInt_lt.mp h
theorem gi_nlt {a b : Int32} {x y : Int} (ha : a.toInt = x) (hb : b.toInt = y) (h : ¬ a < b) : x ≥ y := by rw [← ha, ← hb]; rw [Int32.lt_iff_toInt_lt] at h; omega
theorem gi_le {a b : Int32} {x y : Int} (ha : a.toInt = x) (hb : b.toInt = y) (h : a ≤ b) : x ≤ y := by rw [← ha, ← hb]; exact Int32.le_iff_toInt_le.mp h
theorem gi_nle {a b : Int32} {x y : Int} (ha : a.toInt = x) (hb : b.toInt = y) (h : ¬ a ≤ b) : x > y := by rw [← ha, ← hb]; rw [Int32.le_iff_toInt_le] at h; omega
theorem gi_eq {a b : Int32} {x y : Int} (ha : a.toInt = x) (hb : b.toInt = y) (h : a = b) : x = y := by rw [← ha, ← hb, h]
theorem gi_neq {a b : Int32} {x y : Int} (ha : a.toInt = x) (hb : b.toInt = y) (h : ¬ a = b) : x ≠ y := by
  rw [← ha, ← hb]
  exact fun h2 => h (Int32.toInt_inj.mp h2)
theorem g_bm {z : Int} (h1 : -2147483648 ≤ z) (h2 : z < 2147483648) : z.bmod (2 ^ 32) = z := by
  rw [Int.bmod_def]
  split <;> omega
theorem g_add {y a b : Int32} {i j : Int} (e : y = a + b) (ha : a.toInt = i) (hb : b.toInt = j) (h1 : -2147483648 ≤ i + j) (h2 : i + j < 2147483648) : y.toInt = i + j := by rw [e, Int32.toInt_add, ha, hb]; exact g_bm h1 h2
theorem g_sub {y a b : Int32} {i j : Int} (e : y = a - b) (ha : a.toInt = i) (hb : b.toInt = j) (h1 : -2147483648 ≤ i - j) (h2 : i - j < 2147483648) : y.toInt = i - j := by rw [e, Int32.toInt_sub, ha, hb]; exact g_bm h1 h2
theorem g_mul {y a b : Int32} {i j : Int} (e : y = a * b) (ha : a.toInt = i) (hb : b.toInt = j) (h1 : -2147483648 ≤ i * j) (h2 : i * j < 2147483648) : y.toInt = i * j := by rw [e, Int32.toInt_mul, ha, hb]; exact g_bm h1 h2
theorem g_msk {y x m : Int32} {b : Int} (e : y = x &&& m) (k : Nat) (hm : m.toBitVec.toNat = 2 ^ k - 1) (hk : k ≤ 30) (hb : ((2 ^ k - 1 : Nat) : Int) = b) : 0 ≤ y.toInt ∧ y.toInt ≤ b := by
  subst hb
  obtain ⟨j, hj, ej⟩ := pk_andE x (m := m) k hm
  have h2 : (2 : Nat) ^ k ≤ 2 ^ 30 := Nat.pow_le_pow_right (by decide) hk
  rw [e, ej, nI_toInt (by omega)]
  omega
theorem g_mskl {y x m : Int32} {b : Int} (e : y = m &&& x) (k : Nat) (hm : m.toBitVec.toNat = 2 ^ k - 1) (hk : k ≤ 30) (hb : ((2 ^ k - 1 : Nat) : Int) = b) : 0 ≤ y.toInt ∧ y.toInt ≤ b := g_msk (e.trans (Int32.and_comm m x)) k hm hk hb
theorem g_shr {y x s : Int32} {b : Int} (e : y = x >>> s) (k : Nat) (hs : (s.toBitVec.smod 32).toNat = k) (hk : k < 31) (hb : ((2 ^ k : Nat) : Int) = b) : y.toInt * b ≤ x.toInt ∧ x.toInt < y.toInt * b + b := by
  subst hb
  rw [e, pk_shr x s k hs, Int.shiftRight_eq_div_pow]
  have h0 : (0 : Int) < ((2 ^ k : Nat) : Int) := by
    have := Nat.pow_pos (n := k) (show 0 < 2 by decide)
    omega
  constructor
  · exact Int.ediv_mul_le _ (by omega)
  · have := Int.lt_ediv_add_one_mul_self x.toInt h0
    rw [Int.add_mul, Int.one_mul] at this
    exact this
theorem g_i2b {y x : Int32} (e : y = x.toInt8.toInt32) : -128 ≤ y.toInt ∧ y.toInt ≤ 127 := by
  rw [e, Int8.toInt_toInt32]
  have h1 := Int8.le_toInt x.toInt8
  have h2 := Int8.toInt_lt x.toInt8
  omega
theorem g_i2s {y x : Int32} (e : y = x.toInt16.toInt32) : -32768 ≤ y.toInt ∧ y.toInt ≤ 32767 := by
  rw [e, Int16.toInt_toInt32]
  have h1 := Int16.le_toInt x.toInt16
  have h2 := Int16.toInt_lt x.toInt16
  omega
theorem g_i2c {y x : Int32} (e : y = (x.toUInt32 % 65536).toInt32) : 0 ≤ y.toInt ∧ y.toInt ≤ 65535 := by
  rw [e, pk_char x, nI_toInt (by omega)]
  omega
theorem g_updB {f : Nat → Int32} {lo hi : Int} {k : Nat} {x : Int32} (h : ∀ j : Nat, lo ≤ (f j).toInt ∧ (f j).toInt ≤ hi) (h1 : lo ≤ x.toInt) (h2 : x.toInt ≤ hi) : ∀ j : Nat, lo ≤ (upd f k x j).toInt ∧ (upd f k x j).toInt ≤ hi := by
  intro j
  unfold upd
  by_cases hj : j = k
  · rw [if_pos hj]; exact ⟨h1, h2⟩
  · rw [if_neg hj]; exact h j
theorem g_nb (x : Int32) (h1 : 0 ≤ x.toInt) (h2 : x.toInt ≤ 1) : narrow .boolean (.int x) = .int x := by
  have h : x = 0 ∨ x = 1 := by
    have h3 : x.toInt = 0 ∨ x.toInt = 1 := by omega
    rcases h3 with h | h
    · exact Or.inl (Int32.toInt_inj.mp (by rw [h]; rfl))
    · exact Or.inr (Int32.toInt_inj.mp (by rw [h]; rfl))
  rcases h with rfl | rfl <;> rfl
theorem g_fb (x : Int32) (h1 : 0 ≤ x.toInt) (h2 : x.toInt ≤ 1) : fits .boolean (.int x) = true := by
  have h : x = 0 ∨ x = 1 := by
    have h3 : x.toInt = 0 ∨ x.toInt = 1 := by omega
    rcases h3 with h | h
    · exact Or.inl (Int32.toInt_inj.mp (by rw [h]; rfl))
    · exact Or.inr (Int32.toInt_inj.mp (by rw [h]; rfl))
  rcases h with rfl | rfl <;> rfl
theorem g_nz0 {x : Int32} (h : x.toInt ≠ 0) : ¬ x = 0 := fun e => h (by rw [e]; rfl)
theorem g_nzl {y : Int64} {x : Int32} (e : y = x.toInt64) (h : x.toInt ≠ 0) : ¬ y = 0 := by
  intro h2
  rw [h2] at e
  have h3 := congrArg Int64.toInt e
  rw [Int32.toInt_toInt64] at h3
  exact h h3.symm
theorem g_i32 (x : Int32) : -2147483648 ≤ x.toInt ∧ x.toInt < 2147483648 := by
  have h1 := Int32.le_toInt x
  have h2 := Int32.toInt_lt x
  omega
