/-! P: the reference links -/
def LK (σ : ZS) : Prop := MA σ ∧ CB σ ∧ NoMiss σ ∧ zA σ 0 67 0 ≤ 1200
theorem MA.up {σ τ : ZS} (h : MA σ) (a : ∀ j : Nat, j ∈ WA → zA τ 0 j = zA σ 0 j) : MA τ := ⟨h.1.up a, fun n x y => (h.2 n x y).up a⟩
theorem NoMiss.up {σ τ : ZS} (h : NoMiss σ) (a : ∀ j : Nat, j ∈ WA → zA τ 0 j = zA σ 0 j) : NoMiss τ := by
  unfold NoMiss Pub
  rw [a 43 (by decide), a 50 (by decide), a 54 (by decide), a 55 (by decide), a 56 (by decide), a 57 (by decide)]
  exact h
theorem LK.up {σ τ : ZS} (h : LK σ) (a : ∀ j : Nat, j ∉ [61, 63] → zA τ 0 j = zA σ 0 j) (i : zI τ 0 73 = zI σ 0 73) : LK τ := by
  have aw : ∀ j : Nat, j ∈ WA → zA τ 0 j = zA σ 0 j := fun j hj => a j (fun q => absurd hj ((show ∀ k ∈ [61, 63], k ∉ WA by decide) j q))
  refine ⟨h.1.up aw, ?_, h.2.2.1.up aw, by rw [a 67 (by decide)]; exact h.2.2.2⟩
  unfold CB
  rw [a 43 (by decide), a 44 (by decide), a 48 (by decide), a 67 (by decide), a 69 (by decide), a 70 (by decide), a 71 (by decide), a 72 (by decide), i]
  exact h.2.1
/-- the image's cells -/
def IM (σ : ZS) : Prop := (∀ i : Int, 0 ≤ i → i < 1200 → 0 ≤ zA σ 0 61 i ∧ zA σ 0 61 i ≤ 255) ∧ (∀ k : Int, 0 ≤ k → k < 600 → 0 ≤ zA σ 0 63 k ∧ zA σ 0 63 k ≤ 1199)
theorem IM.u61 {σ : ZS} {i v : Int} (h : IM σ) (hv : 0 ≤ v ∧ v ≤ 255) : IM (zsA σ 0 61 i v) := ⟨rng_zu h.1 hv, h.2⟩
theorem IM.u63 {σ : ZS} {i v : Int} (h : IM σ) (hv : 0 ≤ v ∧ v ≤ 1199) : IM (zsA σ 0 63 i v) := ⟨h.1, rng_zu h.2 hv⟩
/-- the image -/
def IG (σ : ZS) : Prop := IM σ ∧ (0 ≤ zI σ 0 62 ∧ zI σ 0 62 ≤ 1200) ∧ (0 ≤ zI σ 0 64 ∧ zI σ 0 64 ≤ 600) ∧ (0 ≤ zI σ 0 60 ∧ zI σ 0 60 ≤ 1) ∧ (0 ≤ zI σ 0 65 ∧ zI σ 0 65 ≤ 100) ∧ (0 ≤ zI σ 0 66 ∧ zI σ 0 66 ≤ 65535)
abbrev KF : List Nat := [0, 3, 4, 60, 62, 64, 65, 66, 73]
abbrev KA : List Nat := [61, 63, 67, 68, 69, 70, 71, 72]
/-! P: the reference's machine -/
abbrev MF : List Nat := [76, 77, 78, 80, 81, 82, 83, 84]
abbrev MR : List Nat := [74, 75, 79]
def MM (σ : ZS) (N : Int) : Prop := (∀ i : Int, 0 ≤ i → i < 4096 → 0 ≤ zA σ 0 74 i ∧ zA σ 0 74 i ≤ 255) ∧ (∀ i : Int, 0 ≤ i → i < 16 → 0 ≤ zA σ 0 75 i ∧ zA σ 0 75 i ≤ 65535) ∧ (∀ i : Int, 0 ≤ i → i < 30 → -2147483648 ≤ zA σ 0 79 i ∧ zA σ 0 79 i ≤ 2147483647) ∧ (0 ≤ zI σ 0 76 ∧ zI σ 0 76 ≤ 1) ∧ (0 ≤ zI σ 0 78 ∧ zI σ 0 78 ≤ N) ∧ (0 ≤ zI σ 0 80 ∧ zI σ 0 80 ≤ 65535) ∧ (0 ≤ zI σ 0 81 ∧ zI σ 0 81 ≤ 255) ∧ (0 ≤ zI σ 0 82 ∧ zI σ 0 82 ≤ 7) ∧ (0 ≤ zI σ 0 83 ∧ zI σ 0 83 ≤ 15) ∧ (0 ≤ zI σ 0 84 ∧ zI σ 0 84 ≤ 65535)
theorem MM.u74 {σ : ZS} {N i v : Int} (h : MM σ N) (hv : 0 ≤ v ∧ v ≤ 255) : MM (zsA σ 0 74 i v) N := ⟨rng_zu h.1 hv, h.2⟩
theorem MM.u75 {σ : ZS} {N i v : Int} (h : MM σ N) (hv : 0 ≤ v ∧ v ≤ 65535) : MM (zsA σ 0 75 i v) N := ⟨h.1, rng_zu h.2.1 hv, h.2.2⟩
theorem MM.i76 {σ : ZS} {N v : Int} (h : MM σ N) (hv : 0 ≤ v ∧ v ≤ 1) : MM (zsI σ 0 76 v) N := ⟨h.1, h.2.1, h.2.2.1, hv, h.2.2.2.2⟩
theorem MM.i77 {σ : ZS} {N v : Int} (h : MM σ N) : MM (zsI σ 0 77 v) N := h
theorem MM.i78 {σ : ZS} {N v : Int} (h : MM σ N) (hv : 0 ≤ v ∧ v ≤ N) : MM (zsI σ 0 78 v) N := ⟨h.1, h.2.1, h.2.2.1, h.2.2.2.1, hv, h.2.2.2.2.2⟩
theorem MM.i80 {σ : ZS} {N v : Int} (h : MM σ N) (hv : 0 ≤ v ∧ v ≤ 65535) : MM (zsI σ 0 80 v) N := ⟨h.1, h.2.1, h.2.2.1, h.2.2.2.1, h.2.2.2.2.1, hv, h.2.2.2.2.2.2⟩
theorem MM.i81 {σ : ZS} {N v : Int} (h : MM σ N) (hv : 0 ≤ v ∧ v ≤ 255) : MM (zsI σ 0 81 v) N := ⟨h.1, h.2.1, h.2.2.1, h.2.2.2.1, h.2.2.2.2.1, h.2.2.2.2.2.1, hv, h.2.2.2.2.2.2.2⟩
theorem MM.i82 {σ : ZS} {N v : Int} (h : MM σ N) (hv : 0 ≤ v ∧ v ≤ 7) : MM (zsI σ 0 82 v) N := ⟨h.1, h.2.1, h.2.2.1, h.2.2.2.1, h.2.2.2.2.1, h.2.2.2.2.2.1, h.2.2.2.2.2.2.1, hv, h.2.2.2.2.2.2.2.2⟩
theorem MM.i83 {σ : ZS} {N v : Int} (h : MM σ N) (hv : 0 ≤ v ∧ v ≤ 15) : MM (zsI σ 0 83 v) N := ⟨h.1, h.2.1, h.2.2.1, h.2.2.2.1, h.2.2.2.2.1, h.2.2.2.2.2.1, h.2.2.2.2.2.2.1, h.2.2.2.2.2.2.2.1, hv, h.2.2.2.2.2.2.2.2.2⟩
theorem MM.i84 {σ : ZS} {N v : Int} (h : MM σ N) (hv : 0 ≤ v ∧ v ≤ 65535) : MM (zsI σ 0 84 v) N := ⟨h.1, h.2.1, h.2.2.1, h.2.2.2.1, h.2.2.2.2.1, h.2.2.2.2.2.1, h.2.2.2.2.2.2.1, h.2.2.2.2.2.2.2.1, h.2.2.2.2.2.2.2.2.1, hv⟩
theorem MM.mo {σ : ZS} {N M : Int} (h : MM σ N) (hN : N ≤ M) : MM σ M := ⟨h.1, h.2.1, h.2.2.1, h.2.2.2.1, by have := h.2.2.2.2.1; omega, h.2.2.2.2.2⟩
def Go (σ : ZS) (N : Int) (τ : ZS) : Prop := MM τ N ∧ fr MF MR σ τ
theorem Go.rf {σ : ZS} {N : Int} (h : MM σ N) : Go σ N σ := ⟨h, fr.rf⟩
theorem Go.tr {σ τ υ : ZS} {N : Int} (h : Go σ N τ) (k : Go τ N υ) : Go σ N υ := ⟨k.1, h.2.tr k.2⟩
theorem Go.a75 {σ τ : ZS} {N i v : Int} (h : Go σ N τ) (hv : 0 ≤ v ∧ v ≤ 65535) : Go σ N (zsA τ 0 75 i v) := ⟨h.1.u75 hv, h.2.ta (by decide)⟩
theorem Go.a74 {σ τ : ZS} {N i v : Int} (h : Go σ N τ) (hv : 0 ≤ v ∧ v ≤ 255) : Go σ N (zsA τ 0 74 i v) := ⟨h.1.u74 hv, h.2.ta (by decide)⟩
theorem MM.r {σ : ZS} {N i : Int} (h : MM σ N) (h0 : 0 ≤ i) (h1 : i < 16) : 0 ≤ zA σ 0 75 i ∧ zA σ 0 75 i ≤ 65535 := h.2.1 i h0 h1
theorem zor_bd (a b : Int) : -2147483648 ≤ zor a b ∧ zor a b ≤ 2147483647 := by
  unfold zor
  have h1 := Int32.le_toInt (Int32.ofInt a ||| Int32.ofInt b)
  have h2 := Int32.toInt_lt (Int32.ofInt a ||| Int32.ofInt b)
  omega
theorem zxor_bd (a b : Int) : -2147483648 ≤ zxor a b ∧ zxor a b ≤ 2147483647 := by
  unfold zxor
  have h1 := Int32.le_toInt (Int32.ofInt a ^^^ Int32.ofInt b)
  have h2 := Int32.toInt_lt (Int32.ofInt a ^^^ Int32.ofInt b)
  omega
/-! P: the reference's machine steps and runs -/
theorem zlor_wide {w c : Int} (hw : 0 ≤ w ∧ w ≤ 65535) (hc : 0 ≤ c ∧ c ≤ 65535) : zlor (w * 65536) c = w * 65536 + c := by
  unfold zlor
  have e1 : Int64.ofInt (w * 65536) = Int64.ofNat (w.toNat * 65536) := by
    apply Int64.toInt_inj.mp
    rw [z_tl (by omega), Int64.toInt_ofNat_of_lt (by omega)]
    omega
  have e2 : Int64.ofInt c = Int64.ofNat c.toNat := by
    apply Int64.toInt_inj.mp
    rw [z_tl (by omega), Int64.toInt_ofNat_of_lt (by omega)]
    omega
  have e3 : Int64.ofNat (w.toNat * 65536) ||| Int64.ofNat c.toNat = Int64.ofNat (w.toNat * 65536 + c.toNat) := by
    apply Int64.toBitVec_inj.mp
    apply BitVec.eq_of_toNat_eq
    rw [Int64.toBitVec_or, BitVec.toNat_or]
    show (BitVec.ofNat 64 _).toNat ||| (BitVec.ofNat 64 _).toNat = (BitVec.ofNat 64 _).toNat
    rw [BitVec.toNat_ofNat, BitVec.toNat_ofNat, BitVec.toNat_ofNat, Nat.mod_eq_of_lt (by omega), Nat.mod_eq_of_lt (by omega), Nat.mod_eq_of_lt (by omega)]
    have := Nat.shiftLeft_add_eq_or_of_lt (b := c.toNat) (i := 16) (by omega) w.toNat
    rw [Nat.shiftLeft_eq] at this
    exact this.symm
  rw [e1, e2, e3, Int64.toInt_ofNat_of_lt (by omega)]
  omega
abbrev RF : List Nat := [0, 76, 77, 78, 80, 81, 82, 83, 84]
/-! P: the reference loads, and its small methods -/
abbrev LF : List Nat := [0, 76, 77, 78]
abbrev LR : List Nat := [74, 75]
/-! P: the reference's reads -/
theorem s_count {σ : ZS} {N a : Int} {Q : Int → ZS → Prop} (h : MM σ N) (hA : MA σ) (ha : -2147483648 ≤ a ∧ a ≤ 2147483647) (hQ : ∀ (x : Int) (τ : ZS), fr [0] [] σ τ → Q x τ) : wpX11_count a σ Q := by
  have ok : ∀ x : Int, Q x (zsI σ 0 0 0) := fun x => hQ x _ (fr.rf.ti (by decide))
  have bad : wpX11_count_15 (zsI σ 0 0 0) Q := hQ 0 _ ((fr.rf.ti (by decide)).ti (by decide))
  obtain ⟨-, -, -, h76, -⟩ := id h
  unfold wpX11_count wpX11_count_175 wpX11_count_84 wpX11_count_52
  refine ⟨ha, fun _ => bad, fun _ => ⟨fun _ => ⟨fun _ => ⟨fun _ => ⟨fun _ => ok _, fun _ => ⟨fun _ => ok _, fun _ => ⟨fun _ => ok _, fun _ => ⟨fun _ => ok _, fun _ => ⟨fun _ => ok _, fun _ => ⟨fun _ => ok _, fun _ => ⟨fun _ => ok _, fun _ => ⟨by omega, fun _ => ok _, fun _ => ok _⟩⟩⟩⟩⟩⟩⟩⟩, fun _ => ?_⟩, fun _ => ?_⟩, fun _ => bad⟩⟩
  · have h43 := hA.1.2.2.2.2 (a - 8) (by omega) (by omega)
    exact ⟨by omega, by omega, fun _ => ok _, fun _ => ok _⟩
  · have h43 := hA.1.2.2.2.2 (a - 11) (by omega) (by omega)
    exact ⟨by omega, by omega, fun _ => ok _, fun _ => ok _⟩
/-- what stands between calls, the reference's side -/
def RI (σ : ZS) (N : Int) : Prop := PA0 σ ∧ OFs σ ∧ MA σ ∧ IG σ ∧ MM σ N
/-! P: what stands between calls, kept -/
theorem PA0.same {σ τ : ZS} (h : PA0 σ) (i : ∀ f : Nat, f ∈ [2, 8, 9, 10, 37, 38, 39, 41, 42] → zI τ 0 f = zI σ 0 f) (a : ∀ j : Nat, j ∈ [1, 11, 12, 13, 14, 15, 19, 20, 21, 22, 24, 25, 26, 27, 28, 30, 35] → zA τ 0 j = zA σ 0 j) : PA0 τ := by
  unfold PA0 Tx G1 G2 G3
  rw [i 2 (by decide), i 8 (by decide), i 9 (by decide), i 10 (by decide), i 37 (by decide), i 38 (by decide), i 39 (by decide), i 41 (by decide), i 42 (by decide), a 1 (by decide), a 11 (by decide), a 12 (by decide), a 13 (by decide), a 14 (by decide), a 15 (by decide), a 19 (by decide), a 20 (by decide), a 21 (by decide), a 22 (by decide), a 24 (by decide), a 25 (by decide), a 26 (by decide), a 27 (by decide), a 28 (by decide), a 30 (by decide), a 35 (by decide)]
  exact h
theorem IG.same {σ τ : ZS} (h : IG σ) (i : ∀ f : Nat, f ∈ [60, 62, 64, 65, 66] → zI τ 0 f = zI σ 0 f) (a : ∀ j : Nat, j ∈ [61, 63] → zA τ 0 j = zA σ 0 j) : IG τ := by
  unfold IG IM
  rw [i 60 (by decide), i 62 (by decide), i 64 (by decide), i 65 (by decide), i 66 (by decide), a 61 (by decide), a 63 (by decide)]
  exact h
theorem MM.same {σ τ : ZS} {N : Int} (h : MM σ N) (i : ∀ f : Nat, f ∈ [76, 78, 80, 81, 82, 83, 84] → zI τ 0 f = zI σ 0 f) (a : ∀ j : Nat, j ∈ MR → zA τ 0 j = zA σ 0 j) : MM τ N := by
  unfold MM
  rw [i 76 (by decide), i 78 (by decide), i 80 (by decide), i 81 (by decide), i 82 (by decide), i 83 (by decide), i 84 (by decide), a 74 (by decide), a 75 (by decide), a 79 (by decide)]
  exact h
theorem fr.in {fs as : List Nat} {σ τ : ZS} (h : fr fs as σ τ) {l : List Nat} (hd : ∀ f ∈ l, f ∉ fs) : ∀ f : Nat, f ∈ l → zI τ 0 f = zI σ 0 f := fun f hf => h.1 f (hd f hf)
theorem fr.an {fs as : List Nat} {σ τ : ZS} (h : fr fs as σ τ) {l : List Nat} (hd : ∀ f ∈ l, f ∉ as) : ∀ f : Nat, f ∈ l → zA τ 0 f = zA σ 0 f := fun f hf => h.2 f (hd f hf)
theorem RI.read {σ τ : ZS} {N : Int} (h : RI σ N) (f : fr [0] [] σ τ) : RI τ N := ⟨h.1.same (f.in (by decide)) (f.an (by decide)), h.2.1.up (f.2 16 (by decide)), h.2.2.1.up (f.an (by decide)), h.2.2.2.1.same (f.in (by decide)) (f.an (by decide)), h.2.2.2.2.same (f.in (by decide)) (f.an (by decide))⟩
theorem RI.mo {σ : ZS} {N M : Int} (h : RI σ N) (hN : N ≤ M) : RI σ M := ⟨h.1, h.2.1, h.2.2.1, h.2.2.2.1, h.2.2.2.2.mo hN⟩
