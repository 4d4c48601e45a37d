/-! Z: states as numbers (Int), and rows over them -/
abbrev ZS : Type := (Int → Nat → Int) × (Int → Nat → Int → Int)
def zI (σ : ZS) (g : Int) (f : Nat) : Int := σ.1 g f
def zA (σ : ZS) (g : Int) (f : Nat) : Int → Int := σ.2 g f
def zu (h : Int → Int) (i v : Int) : Int → Int := fun j => if j = i then v else h j
def zsI (σ : ZS) (g : Int) (f : Nat) (v : Int) : ZS := (fun g' f' => if g' = g then (if f' = f then v else σ.1 g' f') else σ.1 g' f', σ.2)
def zsF (σ : ZS) (g : Int) (f : Nat) (h : Int → Int) : ZS := (σ.1, fun g' f' => if g' = g then (if f' = f then h else σ.2 g' f') else σ.2 g' f')
def zsA (σ : ZS) (g : Int) (f : Nat) (i v : Int) : ZS := zsF σ g f (zu (zA σ g f) i v)
abbrev zfi (h : Int → Int) : Nat → Int32 := fun j => Int32.ofInt (h (j : Int))
abbrev zfl (h : Int → Int) : Nat → Int64 := fun j => Int64.ofInt (h (j : Int))
def zand (a b : Int) : Int := (Int32.ofInt a &&& Int32.ofInt b).toInt
def zor (a b : Int) : Int := (Int32.ofInt a ||| Int32.ofInt b).toInt
def zxor (a b : Int) : Int := (Int32.ofInt a ^^^ Int32.ofInt b).toInt
def zlor (a b : Int) : Int := (Int64.ofInt a ||| Int64.ofInt b).toInt
def zlshr (a b : Int) : Int := (Int64.ofInt a >>> ((Int32.ofInt b).toInt64 &&& 63)).toInt
def zlushr (a b : Int) : Int := ((Int64.ofInt a).toUInt64 >>> ((Int32.ofInt b).toInt64.toUInt64 &&& Int64.toUInt64 63)).toInt64.toInt
theorem z_ti {a : Int} (h : -2147483648 ≤ a ∧ a ≤ 2147483647) : (Int32.ofInt a).toInt = a := by
  rw [Int32.toInt_ofInt]; exact g_bm h.1 (by omega)
theorem z_bl {z : Int} (h1 : -9223372036854775808 ≤ z) (h2 : z < 9223372036854775808) : z.bmod (2 ^ 64) = z := by
  rw [Int.bmod_def]
  split <;> omega
theorem z_tl {a : Int} (h : -9223372036854775808 ≤ a ∧ a ≤ 9223372036854775807) : (Int64.ofInt a).toInt = a := by
  rw [Int64.toInt_ofInt]; exact z_bl h.1 (by omega)
theorem z_oi (x : Int32) : Int32.ofInt x.toInt = x := Int32.ofInt_toInt x
theorem z_ol (x : Int64) : Int64.ofInt x.toInt = x := Int64.ofInt_toInt x
theorem z_bmm (a : Int) (n : Nat) : Int32.ofInt a = Int32.ofInt (a.bmod (2 ^ 32)) := by
  apply Int32.toInt_inj.mp; rw [Int32.toInt_ofInt, Int32.toInt_ofInt, Int.bmod_bmod]
theorem z_bme {a b : Int} (h : a % 4294967296 = b % 4294967296) : Int32.ofInt a = Int32.ofInt b := by
  apply Int32.toInt_inj.mp
  rw [Int32.toInt_ofInt, Int32.toInt_ofInt, Int.bmod_def, Int.bmod_def]
  have e1 : ((2 ^ 32 : Nat) : Int) = 4294967296 := by decide
  rw [show ((Int32.size : Nat) : Int) = 4294967296 from by decide, h]
theorem z_clamp {i : Int} {n : Nat} (h : 0 ≤ i ∧ i < (n : Int)) (hn : n ≤ 1000000) : (Int32.ofInt i).toNatClampNeg = i.toNat := by
  show (Int32.ofInt i).toInt.toNat = i.toNat
  rw [z_ti (by omega)]
theorem z_in {i : Int} {n : Nat} (h : 0 ≤ i ∧ i < (n : Int)) (hn : n ≤ 1000000) : vp_in (Int32.ofInt i) n := by
  rw [vp_in_iff, z_ti (by omega)]; exact h
theorem z_rd {h : Int → Int} {i : Int} {n : Nat} (hi : 0 ≤ i ∧ i < (n : Int)) (hn : n ≤ 1000000) : zfi h (Int32.ofInt i).toNatClampNeg = Int32.ofInt (h i) := by
  show Int32.ofInt (h (((Int32.ofInt i).toNatClampNeg : Nat) : Int)) = _
  rw [z_clamp hi hn, Int.toNat_of_nonneg hi.1]
theorem z_rdl {h : Int → Int} {i : Int} {n : Nat} (hi : 0 ≤ i ∧ i < (n : Int)) (hn : n ≤ 1000000) : zfl h (Int32.ofInt i).toNatClampNeg = Int64.ofInt (h i) := by
  show Int64.ofInt (h (((Int32.ofInt i).toNatClampNeg : Nat) : Int)) = _
  rw [z_clamp hi hn, Int.toNat_of_nonneg hi.1]
theorem z_wr {h : Int → Int} {i v : Int} {n : Nat} (hi : 0 ≤ i ∧ i < (n : Int)) (hn : n ≤ 1000000) : upd (zfi h) (Int32.ofInt i).toNatClampNeg (Int32.ofInt v) = zfi (zu h i v) := by
  funext j
  rw [z_clamp hi hn]
  show (if j = i.toNat then _ else _) = Int32.ofInt (if (j : Int) = i then v else h j)
  by_cases e : j = i.toNat
  · rw [if_pos e, if_pos (by omega)]
  · rw [if_neg e, if_neg (by omega)]
theorem z_wrl {h : Int → Int} {i v : Int} {n : Nat} (hi : 0 ≤ i ∧ i < (n : Int)) (hn : n ≤ 1000000) : vp_updL (zfl h) (Int32.ofInt i).toNatClampNeg (Int64.ofInt v) = zfl (zu h i v) := by
  funext j
  rw [z_clamp hi hn]
  show (if j = i.toNat then _ else _) = Int64.ofInt (if (j : Int) = i then v else h j)
  by_cases e : j = i.toNat
  · rw [if_pos e, if_pos (by omega)]
  · rw [if_neg e, if_neg (by omega)]
theorem z_nb {v : Int} (h : 0 ≤ v ∧ v ≤ 1) : narrow .boolean (.int (Int32.ofInt v)) = .int (Int32.ofInt v) := g_nb _ (by rw [z_ti (by omega)]; omega) (by rw [z_ti (by omega)]; omega)
theorem z_fb {v : Int} (h : 0 ≤ v ∧ v ≤ 1) : fits .boolean (.int (Int32.ofInt v)) = true := g_fb _ (by rw [z_ti (by omega)]; omega) (by rw [z_ti (by omega)]; omega)
theorem z_narb {v : Int} (h : 0 ≤ v ∧ v ≤ 1) : vp_nar .boolean (Int32.ofInt v) = Int32.ofInt v := by unfold vp_nar; rw [z_nb h]
theorem z_narc {v : Int} (h : 0 ≤ v ∧ v ≤ 65535) : vp_nar .char (Int32.ofInt v) = Int32.ofInt v := by
  have e : Int32.ofInt v = nI v.toNat := by
    apply Int32.toInt_inj.mp
    rw [z_ti (by omega), nI_toInt (by omega)]
    omega
  unfold vp_nar; rw [e, (pk_charN (q := v.toNat) (by omega)).1]
theorem z_msk {a : Int} (k : Nat) {m M : Int} (hk : k ≤ 30) (hm : (Int32.ofInt m).toBitVec.toNat = 2 ^ k - 1) (hM : ((2 ^ k : Nat) : Int) = M) : Int32.ofInt a &&& Int32.ofInt m = Int32.ofInt (a % M) := by
  have h2 : (2 : Nat) ^ k ≤ 2 ^ 30 := Nat.pow_le_pow_right (by decide) hk
  have h3 : (0 : Nat) < 2 ^ k := Nat.two_pow_pos k
  rw [pk_and (Int32.ofInt a) k hm]
  apply Int32.toInt_inj.mp
  rw [nI_toInt (Nat.lt_of_lt_of_le (Nat.mod_lt _ h3) (by omega))]
  subst hM
  have h4 := Int.emod_lt_of_pos a (show (0 : Int) < ((2 ^ k : Nat) : Int) by omega)
  have h5 := Int.emod_nonneg a (show ((2 ^ k : Nat) : Int) ≠ 0 by omega)
  rw [z_ti (by omega)]
  have e : ((Int32.ofInt a).toBitVec.toNat : Int) = a % 4294967296 := by
    show ((BitVec.ofInt 32 a).toNat : Int) = _
    rw [BitVec.toNat_ofInt, Int.toNat_of_nonneg (Int.emod_nonneg _ (by decide))]
    rfl
  rw [Int.natCast_emod, e]
  exact Int.emod_emod_of_dvd a (by
    have : ((2 ^ k : Nat) : Int) ∣ ((2 ^ 32 : Nat) : Int) := Int.natCast_dvd_natCast.mpr (Nat.pow_dvd_pow 2 (by omega))
    exact this)
theorem z_shr {a : Int} (k : Nat) {y M : Int} (hk : k ≤ 30) (hs : ((Int32.ofInt y &&& 31).toBitVec.smod 32).toNat = k) (hM : ((2 ^ k : Nat) : Int) = M) (h : -2147483648 ≤ a ∧ a ≤ 2147483647) : Int32.ofInt a >>> (Int32.ofInt y &&& 31) = Int32.ofInt (a / M) := by
  apply Int32.toInt_inj.mp
  subst hM
  rw [pk_shr _ _ k hs, z_ti h, Int.shiftRight_eq_div_pow]
  have h3 : (0 : Nat) < 2 ^ k := Nat.two_pow_pos k
  have h4 : a / ((2 ^ k : Nat) : Int) ≤ 2147483647 := by
    apply Int.ediv_le_of_le_mul (by omega)
    have : (1 : Int) ≤ ((2 ^ k : Nat) : Int) := by omega
    calc a ≤ 2147483647 * 1 := by omega
      _ ≤ 2147483647 * ((2 ^ k : Nat) : Int) := Int.mul_le_mul_of_nonneg_left this (by decide)
  have h5 : -2147483648 ≤ a / ((2 ^ k : Nat) : Int) := by
    apply Int.le_ediv_of_mul_le (by omega)
    have : (1 : Int) ≤ ((2 ^ k : Nat) : Int) := by omega
    calc (-2147483648) * ((2 ^ k : Nat) : Int) ≤ (-2147483648) * 1 := Int.mul_le_mul_of_nonpos_left (by decide) this
      _ ≤ a := by omega
  rw [z_ti ⟨h5, h4⟩]
