/-! X: the class combines, exactly -/
/-- by part: word, alignment, size (the class) -/
def wC (σ : ZS) (p : Int) : Int := zA σ (p / 24) 2 (p % 24)
def aC (σ : ZS) (p : Int) : Int := zA σ (p / 24) 3 (p % 24)
def sC (σ : ZS) (p : Int) : Int := zA σ (p / 24) 4 (p % 24)
/-- the class's linker holds t -/
def CH0 (τ : ZS) (t : CbS) : Prop := zI τ 16 4 = t.n ∧ ∀ i : Int, 0 ≤ i → i < t.n → zA τ 16 1 i = t.nm i ∧ zA τ 16 2 i = t.sz i
def CH (σ τ : ZS) (a b : Int) (t : CbS) : Prop := CH0 τ t ∧ ∀ m s : Int, 0 ≤ m → m ≤ 2 → 0 ≤ s → s < zI σ m 1 → (m < a ∨ (m = a ∧ s < b)) → zA τ 16 5 (m * 24 + s) = t.wh (24 * m + s) ∧ zA τ 16 6 (m * 24 + s) = t.bg (24 * m + s)
theorem x_combinedNumber {σ τ : ZS} {a b w : Int} {t : CbS} {Q : Int → ZS → Prop} (ha : 0 ≤ a ∧ a ≤ 2) (hb : 0 ≤ b ∧ b < 24) (hc : CV σ τ a b (a * 24 + b)) (hw : 0 ≤ w ∧ w ≤ 4398046511103) (hH : CH0 τ t) (hQ : ∀ (x : Int) (υ : ZS), CV σ υ a b (a * 24 + b + 1) → (0 ≤ x ∧ x < zI υ 16 4) → x = fF t.nm w t.n.toNat → (x ≠ t.n → υ = τ) → (x = t.n → zI υ 16 4 = t.n + 1 ∧ zA υ 16 1 = zu (zA τ 16 1) t.n w ∧ zA υ 16 2 = zu (zA τ 16 2) t.n 0 ∧ zA υ 16 5 = zA τ 16 5 ∧ zA υ 16 6 = zA τ 16 6) → Q x υ) : wpX3_combinedNumber w τ Q := by
  obtain ⟨⟨k1, k2, k3, k4, k5, k6⟩, kk, kn, kc, ks⟩ := hc
  unfold wpX3_combinedNumber wpX3_combinedNumber_2
  refine lfp1_ind (fun v _ => (72 - v).toNat) (fun v υ => υ = τ ∧ (0 ≤ v ∧ v ≤ zI τ 16 4) ∧ ∀ j : Int, 0 ≤ j → j < v → zA τ 16 1 j ≠ w) (fun K v υ hI ih => ?_) ⟨rfl, ⟨by decide, k1.1⟩, fun j j0 j1 => absurd j1 (by omega)⟩
  obtain ⟨e, hv, hno⟩ := hI
  obtain ⟨hn, hf⟩ := hH
  rw [e]
  unfold wpbX3_combinedNumber_2
  refine ⟨by omega, by omega, fun q => ⟨fun lt => ⟨by omega, ?_⟩, fun ge => absurd (show zI τ 16 4 < 72 by omega) ge⟩, fun q => ⟨by omega, ?_, by omega, fun ne => ih _ _ ⟨rfl, by omega, fun j j0 j1 => ?_⟩ (by omega), fun ew => hQ v τ ⟨⟨k1, k2, k3, k4, k5, k6⟩, kk, by omega, kc, ks⟩ (by omega) (fF_u (by omega) (fun j j0 j1 => by rw [← (hf j j0 (by omega)).1]; exact hno j j0 j1) (fun _ => by rw [← (hf v hv.1 (by omega)).1]; exact ew)).symm (fun _ => rfl) (fun q2 => by omega)⟩⟩
  · refine hQ _ _ ⟨⟨?_, rng_zu k2 hw, rng_zu k3 (by decide), k4, k5, k6⟩, ((kk.ta (by decide)).ta (by decide)).ti (by decide), ?_, fun m s m0 m2 s0 s1 q' => ?_, fun c c0 c1 => ?_⟩ ?_ ?_ (fun q2 => absurd (by omega : zI τ 16 4 + 1 - 1 = t.n) q2) (fun _ => ⟨by show zI τ 16 4 + 1 = _; omega, by rw [← hn]; rfl, by rw [← hn]; rfl, rfl, rfl⟩)
    · show 0 ≤ zI τ 16 4 + 1 ∧ zI τ 16 4 + 1 ≤ 72
      omega
    · show zI τ 16 4 + 1 ≤ a * 24 + b + 1
      omega
    · obtain ⟨x1, x2⟩ := kc m s m0 m2 s0 s1 q'
      show (0 ≤ zA τ 16 5 (m * 24 + s) ∧ zA τ 16 5 (m * 24 + s) < zI τ 16 4 + 1) ∧ zA τ 16 6 (m * 24 + s) + zA σ m 4 s ≤ zu (zA τ 16 2) (zI τ 16 4) 0 (zA τ 16 5 (m * 24 + s))
      rw [pu_ne (by omega)]
      exact ⟨by omega, x2⟩
    · show zu (zA τ 16 2) (zI τ 16 4) 0 c ≤ 416 * (a * 24 + b)
      have c1' : c < zI τ 16 4 + 1 := c1
      by_cases e' : c = zI τ 16 4
      · rw [e', pu_eq]; omega
      · rw [pu_ne e']; exact ks c c0 (by omega)
    · show 0 ≤ zI τ 16 4 + 1 - 1 ∧ zI τ 16 4 + 1 - 1 < zI τ 16 4 + 1
      omega
    · exact (fF_u (by omega) (fun j j0 j1 => by rw [← (hf j j0 (by omega)).1]; exact hno j j0 (by omega)) (fun q2 => by omega)).symm
  · have := k2 v hv.1 (by omega)
    omega
  · by_cases ej : j = v
    · rw [ej]; exact ne
    · exact hno j j0 (by omega)
theorem x_addPart {σ τ : ZS} {a b : Int} {t : CbS} {Q : ZS → Prop} (hm : M3 σ) (ha : 0 ≤ a ∧ a ≤ 2) (hb : 0 ≤ b ∧ b < zI σ a 1) (hc : CV σ τ a b (a * 24 + b)) (hH : CH σ τ a b t) (hQ : ∀ υ : ZS, CV σ υ a (b + 1) (a * 24 + b + 1) → CH σ υ a (b + 1) (cPa (wC σ) (aC σ) (sC σ) t (24 * a + b)) → Q υ) : wpX3_addPart a b τ Q := by
  have mo := hm a ha.1 ha.2
  have h1 := mo.2.1
  have sg := mo.2.2.2.2.1 b hb.1 hb.2
  have na : a ∉ [(16 : Int)] := n_1 (by omega)
  have ea := hc.2.1 a na
  unfold wpX3_addPart wpX10_roundUp wpX3_part
  refine ⟨by omega, by omega, x_combinedNumber ha (by omega) hc (by rw [ob_A ea 2]; exact sg.1) hH.1 (fun x υ uc ux ex eo en => ?_)⟩
  obtain ⟨⟨k1, k2, k3, k4, k5, k6⟩, kk, kn, kc, ks⟩ := uc
  have eu := kk a na
  have zx := ks x ux.1 ux.2
  have zn := (k3 x ux.1 (by omega)).1
  rw [ob_A eu 3, z_up sg.2.1 (by omega)]
  have ub := up_bd sg.2.1 zn
  refine ⟨by omega, by omega, by omega, hQ _ ?_ ?_⟩
  rotate_left
  · have wp : wC σ (24 * a + b) = zA σ a 2 b := by unfold wC; rw [show (24 * a + b) / 24 = a by omega, show (24 * a + b) % 24 = b by omega]
    have ap : aC σ (24 * a + b) = zA σ a 3 b := by unfold aC; rw [show (24 * a + b) / 24 = a by omega, show (24 * a + b) % 24 = b by omega]
    have sp : sC σ (24 * a + b) = zA σ a 4 b := by unfold sC; rw [show (24 * a + b) / 24 = a by omega, show (24 * a + b) % 24 = b by omega]
    obtain ⟨⟨hn, hf⟩, hp⟩ := hH
    have xi : x = cIx (wC σ) t (24 * a + b) := by
      unfold cIx
      rw [wp, ex, ob_A ea 2]
    have zv : zA υ 16 2 x = (if cIx (wC σ) t (24 * a + b) = t.n then 0 else t.sz (cIx (wC σ) t (24 * a + b))) := by
      rw [← xi]
      by_cases q : x = t.n
      · rw [if_pos q, (en q).2.2.1, q, pu_eq]
      · rw [if_neg q, eo q]
        exact (hf x ux.1 (by rw [eo q] at ux; omega)).2
    have bv : (zA υ 16 2 x + zA σ a 3 b - 1) / zA σ a 3 b * zA σ a 3 b = cBe (wC σ) (aC σ) t (24 * a + b) := by
      unfold cBe upA
      rw [← zv, ap]
    have e4 : zA (zsA υ 16 5 (a * 24 + b) x) a 4 = zA σ a 4 := (zA_g (by omega)).trans (ob_A eu 4)
    rw [e4, bv]
    have n4 : zI υ 16 4 = (cPa (wC σ) (aC σ) (sC σ) t (24 * a + b)).n := by
      show _ = if cIx (wC σ) t (24 * a + b) = t.n then t.n + 1 else t.n
      rw [← xi]
      by_cases q : x = t.n
      · rw [if_pos q]; exact (en q).1
      · rw [if_neg q, eo q]; exact hn
    refine ⟨⟨n4, fun i i0 i1 => ?_⟩, fun m s m0 m2 s0 s1 q => ?_⟩
    · have i1' : i < zI υ 16 4 := by rw [n4]; exact i1
      show zA υ 16 1 i = (if cIx (wC σ) t (24 * a + b) = t.n then zu t.nm t.n (wC σ (24 * a + b)) else t.nm) i ∧ zu (zA υ 16 2) x (cBe (wC σ) (aC σ) t (24 * a + b) + zA σ a 4 b) i = zu t.sz (cIx (wC σ) t (24 * a + b)) (cBe (wC σ) (aC σ) t (24 * a + b) + sC σ (24 * a + b)) i
      rw [← xi, sp, wp]
      by_cases q : x = t.n
      · obtain ⟨z1, z2, z3, -, -⟩ := en q
        rw [if_pos q, z2, z3, ob_A ea 2]
        by_cases e : i = t.n
        · rw [e, pu_eq, pu_eq, q, pu_eq, pu_eq]; exact ⟨rfl, rfl⟩
        · have ne : i ≠ x := by omega
          rw [pu_ne e, pu_ne e, pu_ne ne, pu_ne ne, pu_ne e]
          exact hf i i0 (by omega)
      · have eu' := eo q
        rw [if_neg q, eu']
        rw [eu', hn] at i1'
        refine ⟨(hf i i0 i1').1, ?_⟩
        by_cases e : i = x
        · rw [e, pu_eq, pu_eq]
        · rw [pu_ne e, pu_ne e]; exact (hf i i0 i1').2
    · show zu (zA υ 16 5) (a * 24 + b) x (m * 24 + s) = zu t.wh (24 * a + b) (cIx (wC σ) t (24 * a + b)) (24 * m + s) ∧ zu (zA υ 16 6) (a * 24 + b) (cBe (wC σ) (aC σ) t (24 * a + b)) (m * 24 + s) = zu t.bg (24 * a + b) (cBe (wC σ) (aC σ) t (24 * a + b)) (24 * m + s)
      have hm24 := (hm m m0 m2).2.1
      have e56 : zA υ 16 5 = zA τ 16 5 ∧ zA υ 16 6 = zA τ 16 6 := by
        by_cases q : x = t.n
        · exact ⟨(en q).2.2.2.1, (en q).2.2.2.2⟩
        · rw [eo q]; exact ⟨rfl, rfl⟩
      rw [e56.1, e56.2, ← xi]
      by_cases e : m = a ∧ s = b
      · obtain ⟨rfl, rfl⟩ := e
        rw [pu_eq, pu_eq, pu_eq, pu_eq]; exact ⟨rfl, rfl⟩
      · rw [pu_ne (by omega), pu_ne (by omega), pu_ne (by omega), pu_ne (by omega)]
        exact hp m s m0 m2 s0 s1 (by omega)
  have e4 : zA (zsA υ 16 5 (a * 24 + b) x) a 4 = zA σ a 4 := (zA_g (by omega)).trans (ob_A eu 4)
  rw [e4]
  have gx : ∀ c : Int, zA υ 16 2 c ≤ zu (zA υ 16 2) x ((zA υ 16 2 x + zA σ a 3 b - 1) / zA σ a 3 b * zA σ a 3 b + zA σ a 4 b) c := by
    intro c
    by_cases e : c = x
    · rw [e, pu_eq]; omega
    · rw [pu_ne e]; exact Int.le_refl _
  refine ⟨⟨k1, k2, rng_zu k3 (by omega), k4, rng_zu k5 (by omega), rng_zu k6 (by omega)⟩, ((kk.ta (by decide)).ta (by decide)).ta (by decide), by show zI υ 16 4 ≤ a * 24 + b + 1; omega, fun m s m0 m2 s0 s1 q => ?_, fun c c0 c1 => ?_⟩
  · show (0 ≤ zu (zA υ 16 5) (a * 24 + b) x (m * 24 + s) ∧ zu (zA υ 16 5) (a * 24 + b) x (m * 24 + s) < zI υ 16 4) ∧ zu (zA υ 16 6) (a * 24 + b) ((zA υ 16 2 x + zA σ a 3 b - 1) / zA σ a 3 b * zA σ a 3 b) (m * 24 + s) + zA σ m 4 s ≤ zu (zA υ 16 2) x ((zA υ 16 2 x + zA σ a 3 b - 1) / zA σ a 3 b * zA σ a 3 b + zA σ a 4 b) (zu (zA υ 16 5) (a * 24 + b) x (m * 24 + s))
    have hm24 := (hm m m0 m2).2.1
    by_cases e : m = a ∧ s = b
    · obtain ⟨rfl, rfl⟩ := e
      rw [pu_eq, pu_eq, pu_eq]
      exact ⟨ux, Int.le_refl _⟩
    · have ne : m * 24 + s ≠ a * 24 + b := by omega
      rw [pu_ne ne, pu_ne ne]
      obtain ⟨x1, x2⟩ := kc m s m0 m2 s0 s1 (by omega)
      exact ⟨x1, Int.le_trans x2 (gx _)⟩
  · show zu (zA υ 16 2) x ((zA υ 16 2 x + zA σ a 3 b - 1) / zA σ a 3 b * zA σ a 3 b + zA σ a 4 b) c ≤ 416 * (a * 24 + (b + 1))
    by_cases e : c = x
    · rw [e, pu_eq]; omega
    · rw [pu_ne e]
      have := ks c c0 c1
      omega
theorem x_combine {σ : ZS} {Q : Int → ZS → Prop} (hm : M3 σ) (hl : LKc σ) (hQ : ∀ (x : Int) (τ : ZS), LKc τ → kp [16] σ τ → (0 ≤ x ∧ x ≤ 3000000) → PLC τ x → CH σ τ 3 0 (cAl (wC σ) (aC σ) (sC σ) (fun m => zI σ m 1) 3) → (∀ i : Int, 0 ≤ i → i < CbS.n (cAl (wC σ) (aC σ) (sC σ) (fun m => zI σ m 1) 3) → zA τ 16 3 i = upA (pE (CbS.sz (cAl (wC σ) (aC σ) (sC σ) (fun m => zI σ m 1) 3)) i.toNat) 16) → x = pE (CbS.sz (cAl (wC σ) (aC σ) (sC σ) (fun m => zI σ m 1) 3)) (CbS.n (cAl (wC σ) (aC σ) (sC σ) (fun m => zI σ m 1) 3)).toNat → Q x τ) : wpX3_combine σ Q := by
  have f49 : ∀ (τ : ZS) (t : CbS), t = (cAl (wC σ) (aC σ) (sC σ) (fun m => zI σ m 1) 3) → CV σ τ 3 0 72 → CH σ τ 3 0 t → wpX3_combine_49 0 0 τ Q := by
    intro τ t et hc hch
    rw [← et] at hQ
    unfold wpX3_combine_49
    refine lfp2_ind (fun _ v _ => (72 - v).toNat) (fun e v υ => CV σ υ 3 0 72 ∧ (0 ≤ v ∧ v ≤ zI υ 16 4) ∧ (0 ≤ e ∧ e ≤ 30000 * v) ∧ (∀ c : Int, 0 ≤ c → c < v → zA υ 16 3 c + zA υ 16 2 c ≤ e) ∧ CH σ υ 3 0 t ∧ e = pE t.sz v.toNat ∧ ∀ i : Int, 0 ≤ i → i < v → zA υ 16 3 i = upA (pE t.sz i.toNat) 16) (fun K e v υ hI ih => ?_) ⟨hc, ⟨by decide, hc.1.1.1⟩, by decide, fun c c0 c1 => absurd c0 (by omega), hch, rfl, fun i i0 i1 => absurd i1 (by omega)⟩
    obtain ⟨⟨⟨k1, k2, k3, k4, k5, k6⟩, kk, kn, kc, ks⟩, hv, he, hp, hch, hpe, hpl⟩ := hI
    unfold wpbX3_combine_49 wpX10_roundUp
    rw [z_up (a := 16) (by unfold al; decide) (by omega)]
    have ub := up_bd (a := 16) (v := e) (by unfold al; decide) he.1
    refine ⟨by omega, by omega, fun q => ?_, fun q => ⟨by omega, ih _ _ _ ⟨⟨⟨k1, k2, k3, rng_zu k4 (by omega), k5, k6⟩, kk.ta (by decide), kn, kc, ks⟩, ?_, ?_, fun c c0 c1 => ?_, hch, ?_, fun i i0 i1 => ?_⟩ (by omega)⟩⟩
    · refine hQ e υ ⟨k1, k2, k3, k4, k5, k6⟩ kk (by omega) (fun m s m0 m2 s0 s1 => ?_) hch (fun i i0 i1 => hpl i i0 (by have := hch.1.1; omega)) (by rw [hpe, show t.n = v by have := hch.1.1; omega])
      have em : ob υ m = ob σ m := kk m (n_1 (by omega))
      rw [ob_I em 1] at s1
      obtain ⟨x1, x2⟩ := kc m s m0 m2 s0 s1 (by omega)
      have := hp _ x1.1 (show zA υ 16 5 (m * 24 + s) < v by omega)
      rw [ob_A em 4]
      omega
    · show 0 ≤ v + 1 ∧ v + 1 ≤ zI υ 16 4
      omega
    · show 0 ≤ zu (zA υ 16 3) v ((e + 16 - 1) / 16 * 16) v + zA υ 16 2 v ∧ zu (zA υ 16 3) v ((e + 16 - 1) / 16 * 16) v + zA υ 16 2 v ≤ 30000 * (v + 1)
      rw [pu_eq]
      have := k3 v hv.1 (by omega)
      have := ks v hv.1 (by omega)
      omega
    · show zu (zA υ 16 3) v ((e + 16 - 1) / 16 * 16) c + zA υ 16 2 c ≤ zu (zA υ 16 3) v ((e + 16 - 1) / 16 * 16) v + zA υ 16 2 v
      rw [pu_eq]
      by_cases ec : c = v
      · rw [ec, pu_eq]; exact Int.le_refl _
      · rw [pu_ne ec]
        have := hp c c0 (by omega)
        have := (k3 v hv.1 (by omega)).1
        omega
    · show zu (zA υ 16 3) v ((e + 16 - 1) / 16 * 16) v + zA υ 16 2 v = pE t.sz (v + 1).toNat
      rw [pu_eq, (hch.1.2 v hv.1 (by have := hch.1.1; omega)).2, show (v + 1).toNat = v.toNat + 1 by omega]
      show _ = upA (pE t.sz v.toNat) 16 + t.sz (v.toNat : Int)
      rw [show ((v.toNat : Nat) : Int) = v by omega, ← hpe]
      rfl
    · show zu (zA υ 16 3) v ((e + 16 - 1) / 16 * 16) i = _
      by_cases ei : i = v
      · rw [ei, pu_eq, ← hpe]; rfl
      · rw [pu_ne ei]; exact hpl i i0 (by omega)
  unfold wpX3_combine wpX3_combine_7
  refine lfp1_ind (fun v _ => (3 - v).toNat) (fun v τ => CV σ τ v 0 (v * 24) ∧ (0 ≤ v ∧ v ≤ 3) ∧ CH σ τ v 0 (cAl (wC σ) (aC σ) (sC σ) (fun m => zI σ m 1) v.toNat)) (fun K v τ hI ih => ?_) ⟨⟨⟨(show (0 : Int) ≤ 0 ∧ (0 : Int) ≤ 72 by decide), hl.2⟩, kp.i (by decide), (show (0 : Int) ≤ 0 * 24 by decide), fun m s m0 m2 s0 s1 q => absurd s0 (by omega), fun c c0 c1 => absurd (show c < 0 from c1) (by omega)⟩, by decide, ⟨rfl, fun i i0 i1 => absurd (show i < 0 from i1) (by omega)⟩, fun m s m0 m2 s0 s1 q => absurd m0 (by omega)⟩
  obtain ⟨cv, hv, ch⟩ := hI
  unfold wpbX3_combine_7 wpX3_combine_14
  refine ⟨by omega, fun q => f49 τ _ rfl (by rw [show v = 3 by omega] at cv; exact cv) (by rw [show v = 3 by omega] at ch; exact ch), fun q => ?_⟩
  have mo := (hm v hv.1 (by omega)).2.1
  refine lfp1_ind (fun u _ => (24 - u).toNat) (fun u υ => CV σ υ v u (v * 24 + u) ∧ (0 ≤ u ∧ u ≤ zI σ v 1) ∧ CH σ υ v u (cSg (wC σ) (aC σ) (sC σ) v (cAl (wC σ) (aC σ) (sC σ) (fun m => zI σ m 1) v.toNat) u.toNat)) (fun K' u υ hI' ih' => ?_) ⟨by rw [Int.add_zero]; exact cv, ⟨by decide, mo.1⟩, ch⟩
  obtain ⟨uv, ⟨u0, u1⟩, uch⟩ := hI'
  have eu := uv.2.1 v (n_1 (by omega))
  have e1 := ob_I eu 1
  unfold wpbX3_combine_14
  refine ⟨by omega, by omega, by omega, fun q' => ih _ _ ⟨?_, by omega, ?_⟩ (by omega), fun q' => x_addPart hm (by omega) ⟨u0, by omega⟩ uv uch (fun ω wv wch => ih' _ _ ⟨by rw [← Int.add_assoc]; exact wv, ⟨by omega, by omega⟩, ?_⟩ (by omega))⟩
  rotate_left
  · rw [show (v + 1).toNat = v.toNat + 1 by omega]
    show CH σ υ (v + 1) 0 (cSg (wC σ) (aC σ) (sC σ) (v.toNat : Int) (cAl (wC σ) (aC σ) (sC σ) (fun m => zI σ m 1) v.toNat) (zI σ (v.toNat : Int) 1).toNat)
    rw [show ((v.toNat : Nat) : Int) = v by omega, show zI σ v 1 = u by omega]
    refine ⟨uch.1, fun m s m0 m2 s0 s1 q2 => uch.2 m s m0 m2 s0 s1 ?_⟩
    rcases q2 with q2 | q2
    · by_cases em : m = v
      · refine Or.inr ⟨em, ?_⟩
        rw [em] at s1
        omega
      · exact Or.inl (by omega)
    · exact absurd s0 (by omega)
  · rw [show (u + 1).toNat = u.toNat + 1 by omega]
    show CH σ ω v (u + 1) (cPa (wC σ) (aC σ) (sC σ) (cSg (wC σ) (aC σ) (sC σ) v (cAl (wC σ) (aC σ) (sC σ) (fun m => zI σ m 1) v.toNat) u.toNat) (24 * v + (u.toNat : Int)))
    rw [show ((u.toNat : Nat) : Int) = u by omega]
    exact wch
  obtain ⟨l1, l2, l3, l4, l5⟩ := uv
  refine ⟨l1, l2, by omega, fun m s m0 m2 s0 s1 q2 => l4 m s m0 m2 s0 s1 ?_, fun c c0 c1 => by have := l5 c c0 c1; omega⟩
  rcases q2 with q2 | q2
  · by_cases em : m = v
    · refine Or.inr ⟨em, ?_⟩
      rw [em] at s1
      omega
    · exact Or.inl (by omega)
  · exact absurd s0 (by omega)
