/-! P: the reference links: publics -/
theorem zor_bytes {b c : Int} (hb : 0 ≤ b ∧ b < 256) (hc : 0 ≤ c ∧ c < 256) : zor b (c * 256) = c * 256 + b := by
  unfold zor
  have e1 : Int32.ofInt (c * 256) = Int32.ofNat (c.toNat * 256) := by
    apply Int32.toInt_inj.mp
    rw [z_ti (by omega), Int32.toInt_ofNat_of_lt (by omega)]
    omega
  have e2 : Int32.ofInt b = Int32.ofNat b.toNat := by
    apply Int32.toInt_inj.mp
    rw [z_ti (by omega), Int32.toInt_ofNat_of_lt (by omega)]
    omega
  have e3 : Int32.ofNat b.toNat ||| Int32.ofNat (c.toNat * 256) = Int32.ofNat (c.toNat * 256 + b.toNat) := by
    apply Int32.toBitVec_inj.mp
    apply BitVec.eq_of_toNat_eq
    rw [Int32.toBitVec_or, BitVec.toNat_or]
    show (BitVec.ofNat 32 _).toNat ||| (BitVec.ofNat 32 _).toNat = (BitVec.ofNat 32 _).toNat
    rw [BitVec.toNat_ofNat, BitVec.toNat_ofNat, BitVec.toNat_ofNat, Nat.mod_eq_of_lt (by omega), Nat.mod_eq_of_lt (by omega), Nat.mod_eq_of_lt (by omega), Nat.or_comm]
    have := Nat.shiftLeft_add_eq_or_of_lt (b := b.toNat) (i := 8) (by omega) c.toNat
    rw [Nat.shiftLeft_eq] at this
    exact this.symm
  rw [e1, e2, e3, Int32.toInt_ofNat_of_lt (by omega)]
  omega
def Pub (σ : ZS) (w : Int) : Prop := ∃ m k : Int, (0 ≤ m ∧ m ≤ 2) ∧ zA σ 0 43 m ≠ 0 ∧ (0 ≤ k ∧ k < zA σ 0 56 m) ∧ zA σ 0 57 (80 * m + k) = w
/-- all modules -/
def MA (σ : ZS) : Prop := GM σ ∧ (∀ n : Int, 0 ≤ n → n ≤ 2 → MI σ n)
theorem s_publicIn {σ : ZS} {m w : Int} {Q : Int → ZS → Prop} (hA : MA σ) (hm : 0 ≤ m ∧ m ≤ 2) (hw : 0 ≤ w ∧ w ≤ 72057594037927936) (h0 : (∀ k : Int, 0 ≤ k → k < zA σ 0 56 m → zA σ 0 43 m ≠ 0 → zA σ 0 57 (80 * m + k) ≠ w) → Q (-1) σ) (h1 : ∀ k : Int, 0 ≤ k → k < zA σ 0 56 m → zA σ 0 43 m ≠ 0 → zA σ 0 57 (80 * m + k) = w → Q (80 * m + k) σ) : wpX11_publicIn m w σ Q := by
  have hM := (hA.2 m hm.1 hm.2).1.2.2
  have h43 := hA.1.2.2.2.2 m hm.1 (by omega)
  unfold wpX11_publicIn wpX11_publicIn_3
  refine lfp1_ind (fun v _ => (80 - v).toNat) (fun v τ => τ = σ ∧ (0 ≤ v ∧ v ≤ zA σ 0 56 m) ∧ (∀ k : Int, 0 ≤ k → k < v → zA σ 0 43 m ≠ 0 → zA σ 0 57 (80 * m + k) ≠ w)) ?_ ⟨rfl, by omega, fun k k0 k1 => absurd k1 (by omega)⟩
  intro P v τ ⟨he, hv, hno⟩ ih
  rw [he]
  show wpbX11_publicIn_3 P m w v σ Q
  unfold wpbX11_publicIn_3 wpX11_publicIn_54
  refine ⟨by omega, by omega, by omega, fun e => h0 (fun k k0 k1 => hno k k0 (by omega)), fun ne => ⟨by omega, fun z => h0 (fun k _ _ q => absurd z q), fun nz => ?_⟩⟩
  have h57 := hA.1.2.2.1 (80 * m + v) (by omega) (by omega)
  refine ⟨by omega, by omega, by omega, fun nw => ih _ _ ⟨rfl, by omega, fun k k0 k1 q => ?_⟩ (by show (80 - (v + 1)).toNat < (80 - v).toNat; omega), fun ew => h1 v hv.1 (by omega) nz ew⟩
  by_cases e : k = v
  · rw [e]; exact nw
  · exact hno k k0 (by omega) q
theorem s_publicOf {σ : ZS} {w : Int} {Q : Int → ZS → Prop} (hA : MA σ) (hw : 0 ≤ w ∧ w ≤ 72057594037927936) (h0 : ¬ Pub σ w → Q (-1) σ) (h1 : ∀ m k : Int, (0 ≤ m ∧ m ≤ 2) → (0 ≤ k ∧ k < zA σ 0 56 m) → zA σ 0 43 m ≠ 0 → zA σ 0 57 (80 * m + k) = w → Q (80 * m + k) σ) : wpX11_publicOf w σ Q := by
  unfold wpX11_publicOf wpX11_publicOf_2
  refine lfp1_ind (fun v _ => (3 - v).toNat) (fun v τ => τ = σ ∧ (0 ≤ v ∧ v ≤ 3) ∧ (∀ m k : Int, 0 ≤ m → m < v → 0 ≤ k → k < zA σ 0 56 m → zA σ 0 43 m ≠ 0 → zA σ 0 57 (80 * m + k) ≠ w)) ?_ ⟨rfl, by omega, fun m k k0 k1 => absurd k1 (by omega)⟩
  intro P v τ ⟨he, hv, hno⟩ ih
  rw [he]
  show wpbX11_publicOf_2 P w v σ Q
  unfold wpbX11_publicOf_2
  refine ⟨by omega, fun e => h0 (fun ⟨m, k, hm, h43, hk, h57⟩ => hno m k hm.1 (by omega) hk.1 hk.2 h43 h57), fun ne => ?_⟩
  refine s_publicIn hA ⟨hv.1, by omega⟩ hw (fun hn => ⟨by decide, fun _ => ih _ _ ⟨rfl, by omega, fun m k m0 m1 k0 k1 q => ?_⟩ (by show (3 - (v + 1)).toNat < (3 - v).toNat; omega), fun q => absurd (by decide) q⟩) (fun k k0 k1 q e => ?_)
  · by_cases e : m = v
    · rw [e] at k1 q ⊢; exact hn k k0 k1 q
    · exact hno m k m0 (by omega) k0 k1 q
  · have hM := (hA.2 v hv.1 (by omega)).1.2.2
    exact ⟨by omega, fun l => absurd l (by omega), fun _ => h1 v k ⟨hv.1, by omega⟩ ⟨k0, k1⟩ q e⟩
theorem s_twice {σ : ZS} {Q : Int → ZS → Prop} (hA : MA σ) (hQ : ∀ r : Int, (-1 ≤ r ∧ r ≤ 2) → Q r σ) : wpX11_twice σ Q := by
  unfold wpX11_twice wpX11_twice_2
  refine lfp1_ind (fun v _ => (3 - v).toNat) (fun v τ => τ = σ ∧ (1 ≤ v ∧ v ≤ 3)) ?_ ⟨rfl, by omega⟩
  intro P m τ ⟨he, hm⟩ ih
  rw [he]
  show wpbX11_twice_2 P m σ Q
  unfold wpbX11_twice_2
  refine ⟨by omega, fun _ => hQ _ (by decide), fun ne => ?_⟩
  have hM := (hA.2 m (by omega) (by omega)).1.2.2
  have h43 := hA.1.2.2.2.2 m (by omega) (by omega)
  have out : P (m + 1) σ := ih _ _ ⟨rfl, by omega⟩ (by show (3 - (m + 1)).toNat < (3 - m).toNat; omega)
  unfold wpX11_twice_9
  refine lfp1_ind (fun v _ => (80 - v).toNat) (fun v τ => τ = σ ∧ (0 ≤ v ∧ v ≤ zA σ 0 56 m)) ?_ ⟨rfl, by omega⟩
  intro P9 k τ ⟨he9, hk⟩ ih9
  rw [he9]
  show wpbX11_twice_9 P P9 m k σ Q
  unfold wpbX11_twice_9 wpX11_twice_68
  refine ⟨by omega, by omega, by omega, fun _ => out, fun ne9 => ⟨by omega, fun _ => out, fun _ => ?_⟩⟩
  have next : P9 (k + 1) σ := ih9 _ _ ⟨rfl, by omega⟩ (by show (80 - (k + 1)).toNat < (80 - k).toNat; omega)
  have h57 := hA.1.2.2.1 (80 * m + k) (by omega) (by omega)
  unfold wpX11_twice_30
  refine lfp1_ind (fun v _ => (m - v).toNat) (fun v τ => τ = σ ∧ (0 ≤ v ∧ v ≤ m)) ?_ ⟨rfl, by omega⟩
  intro P30 n τ ⟨he30, hn⟩ ih30
  rw [he30]
  show wpbX11_twice_30 P P9 P30 m k n σ Q
  unfold wpbX11_twice_30
  refine ⟨by omega, by omega, fun _ => next, fun ne30 => ⟨by omega, ?_⟩⟩
  have hN := (hA.2 n (by omega) (by omega)).1.2.2
  refine s_publicIn hA ⟨hn.1, by omega⟩ h57 (fun _ => ⟨by decide, fun _ => ih30 _ _ ⟨rfl, by omega⟩ (by show (m - (n + 1)).toNat < (m - n).toNat; omega), fun q => absurd (by decide) q⟩) (fun j j0 j1 _ _ => ⟨by omega, fun l => absurd l (by omega), fun _ => hQ _ (by omega)⟩)
def NoMiss (σ : ZS) : Prop := ∀ m k : Int, 0 ≤ m → m ≤ 2 → zA σ 0 43 m ≠ 0 → 0 ≤ k → k < zA σ 0 50 m → zA σ 0 54 (200 * m + k) < 0 → Pub σ (zA σ 0 55 (200 * m + k))
theorem s_missing {σ : ZS} {Q : Int → ZS → Prop} (hA : MA σ) (h0 : NoMiss σ → Q (-1) σ) (h1 : ∀ r : Int, (0 ≤ r ∧ r ≤ 2) → Q r σ) : wpX11_missing σ Q := by
  unfold wpX11_missing wpX11_missing_2
  refine lfp1_ind (fun v _ => (3 - v).toNat) (fun v τ => τ = σ ∧ (0 ≤ v ∧ v ≤ 3) ∧ (∀ m k : Int, 0 ≤ m → m < v → zA σ 0 43 m ≠ 0 → 0 ≤ k → k < zA σ 0 50 m → zA σ 0 54 (200 * m + k) < 0 → Pub σ (zA σ 0 55 (200 * m + k)))) ?_ ⟨rfl, by omega, fun m k a b => absurd b (by omega)⟩
  intro P m τ ⟨he, hm, hno⟩ ih
  rw [he]
  show wpbX11_missing_2 P m σ Q
  unfold wpbX11_missing_2
  refine ⟨by omega, fun _ => h0 (fun m k m0 m1 => hno m k m0 (by omega)), fun ne => ?_⟩
  have hM := (hA.2 m (by omega) (by omega)).1.2.1
  have h43 := hA.1.2.2.2.2 m (by omega) (by omega)
  unfold wpX11_missing_9
  refine lfp1_ind (fun v _ => (200 - v).toNat) (fun v τ => τ = σ ∧ (0 ≤ v ∧ v ≤ zA σ 0 50 m) ∧ (∀ k : Int, zA σ 0 43 m ≠ 0 → 0 ≤ k → k < v → zA σ 0 54 (200 * m + k) < 0 → Pub σ (zA σ 0 55 (200 * m + k)))) ?_ ⟨rfl, by omega, fun k _ a b => absurd b (by omega)⟩
  intro P9 k τ ⟨he9, hk, hnk⟩ ih9
  rw [he9]
  show wpbX11_missing_9 P P9 m k σ Q
  have out : zA σ 0 43 m = 0 ∨ k = zA σ 0 50 m → P (m + 1) σ := by
    intro hq
    refine ih _ _ ⟨rfl, by omega, fun m' k' a b c d e f => ?_⟩ (by show (3 - (m + 1)).toNat < (3 - m).toNat; omega)
    by_cases em : m' = m
    · rw [em] at c e f ⊢
      rcases hq with q | q
      · exact absurd q c
      · exact hnk k' c d (by omega) f
    · exact hno m' k' a (by omega) c d e f
  unfold wpbX11_missing_9 wpX11_missing_70 wpX11_missing_64
  refine ⟨by omega, by omega, by omega, fun _ => out (Or.inr (by omega)), fun ne9 => ⟨by omega, fun z => out (Or.inl z), fun nz => ?_⟩⟩
  have h54 := ((hA.2 m (by omega) (by omega)).2.2.1 k hk.1 (by omega)).2.2.2.2
  have h44 := (hA.2 m (by omega) (by omega)).1.1
  have h55 := hA.1.2.1 (200 * m + k) (by omega) (by omega)
  have next : (zA σ 0 54 (200 * m + k) < 0 → Pub σ (zA σ 0 55 (200 * m + k))) → P9 (k + 1) σ := by
    intro hq
    refine ih9 _ _ ⟨rfl, by omega, fun k' a b c d => ?_⟩ (by show (200 - (k + 1)).toNat < (200 - k).toNat; omega)
    by_cases e : k' = k
    · rw [e] at d ⊢; exact hq d
    · exact hnk k' a b (by omega) d
  refine ⟨by omega, by omega, fun g => next (fun l => absurd l (by omega)), fun ng => ?_⟩
  refine s_publicOf hA h55 (fun _ => ⟨by decide, fun q => absurd q (by decide), fun _ => h1 _ (by omega)⟩) (fun m' k' hm' hk' h43' h57' => ?_)
  have hN := (hA.2 m' hm'.1 hm'.2).1.2.2
  exact ⟨by omega, fun _ => next (fun _ => ⟨m', k', hm', h43', hk', h57'⟩), fun q => absurd (by omega) q⟩
