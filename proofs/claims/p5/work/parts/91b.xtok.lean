/-! X: the tokens of the class, exactly -/
theorem zw_inj : ∀ i : Nat, i < 48 → ∀ j : Nat, j < 48 → zwords (i : Int) = zwords (j : Int) → i = j := by decide +kernel
theorem cd_of {w : Int} {k : Nat} (hk : k < 48) (h : zwords (k : Int) = w) : cdOf zwords w k := by
  refine Or.inr ⟨by omega, by omega, h, fun j a b e => ?_⟩
  have := zw_inj k hk j.toNat (by omega) (by rw [h, ← e, show ((j.toNat : Nat) : Int) = j by omega])
  omega
theorem cd_no {w : Int} (h1 : ∀ k : Nat, k < 8 → zwords ((0 + k : Nat) : Int) ≠ w) (h2 : ∀ k : Nat, k < 4 → zwords ((8 + k : Nat) : Int) ≠ w) (h3 : ∀ k : Nat, k < 36 → zwords ((12 + k : Nat) : Int) ≠ w) : cdOf zwords w (-1) := by
  refine Or.inl ⟨rfl, fun k a b e => ?_⟩
  by_cases q : k < 8
  · refine h1 k.toNat (by omega) ?_; rw [← e]; congr 1; omega
  by_cases q2 : k < 12
  · refine h2 (k - 8).toNat (by omega) ?_; rw [← e]; congr 1; omega
  · refine h3 (k - 12).toNat (by omega) ?_; rw [← e]; congr 1; omega
/-- a code is one -/
theorem cd_u {h : Int → Int} {w c d : Int} (a : cdOf h w c) (b : cdOf h w d) : c = d := by
  rcases a with ⟨a1, a2⟩ | ⟨a1, a2, a3, a4⟩ <;> rcases b with ⟨b1, b2⟩ | ⟨b1, b2, b3, b4⟩
  · omega
  · exact absurd b3 (a2 d b1 b2)
  · exact absurd a3 (b2 c a1 a2)
  · by_cases q : c < d
    · exact absurd b3 (a4 d q b2)
    by_cases q2 : d < c
    · exact absurd a3 (b4 c q2 a2)
    · omega
/-- a run ends at one place -/
theorem isRun.u {p : Int → Prop} {L a s t : Int} (h : isRun p L a s) (k : isRun p L a t) : s = t := by
  obtain ⟨h1, h2, h3, h4⟩ := h
  obtain ⟨k1, k2, k3, k4⟩ := k
  by_cases q : s < t
  · rcases h4 with h4 | h4
    · omega
    · exact absurd (k3 s h1 q) h4
  by_cases q2 : t < s
  · rcases k4 with k4 | k4
    · omega
    · exact absurd (h3 t k1 q2) k4
  · omega
/-- what number a row of digits is -/
def xNum (n t v : Int) : Prop := (n ≤ 65535 ∧ t = 2 ∧ v = n) ∨ (65535 < n ∧ t = 1)
/-- what a word of at most six signs is, by its code -/
def xWrd (c t v w : Int) (nw : Int → Int) : Prop := (c = -1 ∧ t = 3 ∧ nw v = w) ∨ (0 ≤ c ∧ c < 8 ∧ t = 4 ∧ v = c) ∨ (8 ≤ c ∧ c < 12 ∧ t = 5 ∧ v = c - 8) ∨ (12 ≤ c ∧ c < 48 ∧ t = 6 ∧ v = c - 12)
/-- the token that begins at p and ends at e -/
def LXm (h : Int → Int) (L : Int) (nw : Int → Int) (p e t v : Int) : Prop :=
  (p = L ∧ e = L ∧ t = 0) ∨
  (p < L ∧ cL (h p) ∧ isRun (fun j => cL (h j) ∨ cD (h j)) L (p + 1) e ∧ ((6 < e - p ∧ t = 1) ∨ (e - p ≤ 6 ∧ ∃ c : Int, cdOf zwords (wv h p (e - p).toNat) c ∧ xWrd c t v (pkv h p (e - p).toNat) nw))) ∨
  (p < L ∧ cD (h p) ∧ isRun (fun j => cD (h j)) L (p + 1) e ∧ xNum (nv h p (e - p - 1).toNat) t v) ∨
  (p < L ∧ ¬ cL (h p) ∧ ¬ cD (h p) ∧ h p ≠ 32 ∧ e = p + 1 ∧ ((cS (h p) ∧ t = h p) ∨ (¬ cS (h p) ∧ t = 1)))
theorem LXm.mo {h : Int → Int} {L : Int} {nw nw' : Int → Int} {p e t v : Int} (k : LXm h L nw p e t v) (hn : t = 3 → nw' v = nw v) : LXm h L nw' p e t v := by
  rcases k with k | ⟨k1, k2, k3, k4⟩ | k | k
  · exact Or.inl k
  · refine Or.inr (Or.inl ⟨k1, k2, k3, ?_⟩)
    rcases k4 with k4 | ⟨k4, c, k5, k6⟩
    · exact Or.inl k4
    · refine Or.inr ⟨k4, c, k5, ?_⟩
      rcases k6 with ⟨a, b, d⟩ | k6
      · exact Or.inl ⟨a, b, by rw [hn b]; exact d⟩
      · exact Or.inr k6
  · exact Or.inr (Or.inr (Or.inl k))
  · exact Or.inr (Or.inr (Or.inr k))
/-- what putting a token does -/
def xPut (σ τ : ZS) (t v p : Int) : Prop := zI τ 12 3 = zI σ 12 3 + 1 ∧ zA τ 12 0 = zu (zA σ 12 0) (zI σ 12 3) t ∧ zA τ 12 1 = zu (zA σ 12 1) (zI σ 12 3) v ∧ zA τ 12 2 = zu (zA σ 12 2) (zI σ 12 3) p
theorem x_put {σ : ZS} {t v p : Int} {Q : ZS → Prop} (hT : TI σ) (hk : TK (zI σ 11 5) t v p) (hs : zI σ 12 3 ≤ 480) (hQ : ∀ τ : ZS, TI τ → kp [12] σ τ → xPut σ τ t v p → Q τ) : wpX9_put t v p σ Q := by
  obtain ⟨hz, hi⟩ := hT
  unfold wpX9_put wpX9_put_52
  refine ⟨by omega, fun a => absurd a (by omega), fun _ => ⟨by omega, hQ _ ⟨?_, fun i i0 i1 => ?_⟩ ((((kp.rf.ta (by decide)).ta (by decide)).ta (by decide)).ti (by decide)) ⟨rfl, rfl, rfl, rfl⟩⟩⟩
  · show 0 ≤ zI σ 12 3 + 1 ∧ zI σ 12 3 + 1 ≤ 481
    omega
  · show TK (zI σ 11 5) (zu (zA σ 12 0) (zI σ 12 3) t i) (zu (zA σ 12 1) (zI σ 12 3) v i) (zu (zA σ 12 2) (zI σ 12 3) p i)
    have i1' : i < zI σ 12 3 + 1 := i1
    by_cases e : i = zI σ 12 3
    · rw [e, pu_eq, pu_eq, pu_eq]; exact hk
    · rw [pu_ne e, pu_ne e, pu_ne e]; exact hi i i0 (by omega)
/-- the number of a name: an old one's, or the next -/
def xNam (σ τ : ZS) (w x : Int) : Prop := (0 ≤ x ∧ x < zI σ 11 5 ∧ zA σ 11 0 x = w ∧ ob τ 11 = ob σ 11) ∨ (x = zI σ 11 5 ∧ (∀ j : Int, 0 ≤ j → j < zI σ 11 5 → zA σ 11 0 j ≠ w) ∧ zI τ 11 5 = zI σ 11 5 + 1 ∧ zA τ 11 0 = zu (zA σ 11 0) (zI σ 11 5) w ∧ (zI τ 11 5 ≤ 24 → zI τ 11 6 = zI σ 11 6))
theorem x_numberOf {σ : ZS} {w p : Int} {Q : Int → ZS → Prop} (hS : NS σ) (hR : NR σ) (hF : NF σ) (hw : 0 ≤ w ∧ w ≤ 4398046511103) (hp : 0 ≤ p ∧ p ≤ 480) (h9 : zI σ 11 5 ≤ 239) (hQ : ∀ (x : Int) (τ : ZS), NS τ → NR τ → NF τ → kp [11] σ τ → zI σ 11 5 ≤ zI τ 11 5 → (0 ≤ x ∧ x < zI τ 11 5) → xNam σ τ w x → Q x τ) : wpX5_numberOf w p σ Q := by
  obtain ⟨s1, s2, s3⟩ := hS
  have nr : ∀ i : Int, 0 ≤ i → i < 240 → ((0 ≤ zu (zA σ 11 0) (zI σ 11 5) w i ∧ zu (zA σ 11 0) (zI σ 11 5) w i ≤ 4398046511103) ∧ (0 ≤ zu (zA σ 11 1) (zI σ 11 5) 0 i ∧ zu (zA σ 11 1) (zI σ 11 5) 0 i ≤ 3) ∧ (-1 ≤ zu (zA σ 11 2) (zI σ 11 5) (-1) i ∧ zu (zA σ 11 2) (zI σ 11 5) (-1) i ≤ 59) ∧ (0 ≤ zu (zA σ 11 3) (zI σ 11 5) 0 i ∧ zu (zA σ 11 3) (zI σ 11 5) 0 i ≤ 16) ∧ (0 ≤ zu (zA σ 11 4) (zI σ 11 5) 0 i ∧ zu (zA σ 11 4) (zI σ 11 5) 0 i ≤ 20000)) := by
    intro i i0 i1
    by_cases e : i = zI σ 11 5
    · rw [e, pu_eq, pu_eq, pu_eq, pu_eq, pu_eq]; exact ⟨hw, by decide, by decide, by decide, by decide⟩
    · rw [pu_ne e, pu_ne e, pu_ne e, pu_ne e, pu_ne e]; exact hR i i0 i1
  have nf : ∀ i : Int, 0 ≤ i → i < zI σ 11 5 + 1 → zu (zA σ 11 1) (zI σ 11 5) 0 i = 0 ∧ zu (zA σ 11 2) (zI σ 11 5) (-1) i = -1 := by
    intro i i0 i1
    by_cases e : i = zI σ 11 5
    · rw [e, pu_eq, pu_eq]; exact ⟨rfl, rfl⟩
    · rw [pu_ne e, pu_ne e]; exact hF i i0 (by omega)
  unfold wpX5_numberOf wpX5_numberOf_3
  refine lfp1_ind (fun v _ => (240 - v).toNat) (fun v τ => τ = σ ∧ (0 ≤ v ∧ v ≤ zI σ 11 5) ∧ ∀ j : Int, 0 ≤ j → j < v → zA σ 11 0 j ≠ w) (fun K v τ hI ih => ?_) ⟨rfl, by omega, fun j a b => by omega⟩
  obtain ⟨e, v0, hn⟩ := hI
  rw [e]
  unfold wpbX5_numberOf_3 wpX5_numberOf_121
  refine ⟨by omega, by omega, fun a => ⟨fun b => ⟨by omega, by omega, fun c => ?_, fun c => ?_⟩, fun b => by omega⟩, fun a => ⟨by omega, ?_, by omega, fun q => ih _ _ ⟨rfl, by omega, fun j j0 j1 => ?_⟩ (by omega), fun q => hQ _ _ ⟨s1, s2, s3⟩ hR hF kp.rf (Int.le_refl _) (by omega) (Or.inl ⟨by omega, by omega, q, rfl⟩)⟩⟩
  · refine hQ _ _ ⟨?_, s2, ?_⟩ nr nf ((((((kp.rf.ta (by decide)).ta (by decide)).ta (by decide)).ta (by decide)).ta (by decide)).ti (by decide)) ?_ ?_ (Or.inr ⟨?_, fun j j0 j1 => hn j j0 (by omega), rfl, rfl, fun _ => rfl⟩)
    · show 0 ≤ zI σ 11 5 + 1 ∧ zI σ 11 5 + 1 ≤ 240
      omega
    · show 25 ≤ zI σ 11 5 + 1 → 0 ≤ zI σ 11 6
      intro q; exact s3 (by omega)
    · show zI σ 11 5 ≤ zI σ 11 5 + 1
      omega
    · show 0 ≤ zI σ 11 5 + 1 - 1 ∧ zI σ 11 5 + 1 - 1 < zI σ 11 5 + 1
      omega
    · show zI σ 11 5 + 1 - 1 = zI σ 11 5
      omega
  · refine hQ _ _ ⟨?_, ?_, ?_⟩ nr nf (((((((kp.rf.ta (by decide)).ta (by decide)).ta (by decide)).ta (by decide)).ta (by decide)).ti (by decide)).ti (by decide)) ?_ ?_ (Or.inr ⟨?_, fun j j0 j1 => hn j j0 (by omega), rfl, rfl, fun q => absurd (show zI σ 11 5 + 1 ≤ 24 from q) (by omega)⟩)
    · show 0 ≤ zI σ 11 5 + 1 ∧ zI σ 11 5 + 1 ≤ 240
      omega
    · show -1 ≤ p ∧ p ≤ 480
      omega
    · show 25 ≤ zI σ 11 5 + 1 → 0 ≤ p
      intro q; exact hp.1
    · show zI σ 11 5 ≤ zI σ 11 5 + 1
      omega
    · show 0 ≤ zI σ 11 5 + 1 - 1 ∧ zI σ 11 5 + 1 - 1 < zI σ 11 5 + 1
      omega
    · show zI σ 11 5 + 1 - 1 = zI σ 11 5
      omega
  · have := (hR v v0.1 (by omega)).1
    omega
  · by_cases e : j = v
    · rw [e]; exact q
    · exact hn j j0 (by omega)
theorem x_readNumber {σ : ZS} {s L : Int} {Q : Int → ZS → Prop} (hX : TX σ) (hT : TI σ) (hb : 0 ≤ s ∧ s < L ∧ L ≤ 480) (hd : cD (zA σ 10 0 s)) (hs : zI σ 12 3 ≤ 480) (hQ : ∀ (x : Int) (τ : ZS) (t v : Int), TI τ → kp [12] σ τ → isRun (fun j => cD (zA σ 10 0 j)) L (s + 1) x → xNum (nv (zA σ 10 0) s (x - s - 1).toNat) t v → xPut σ τ t v s → Q x τ) : wpX9_readNumber s L σ Q := by
  unfold wpX9_readNumber wpX9_readNumber_6
  have f48 : ∀ v4 v5 : Int, (0 ≤ v4 ∧ v4 ≤ 65536) → isRun (fun j => cD (zA σ 10 0 j)) L (s + 1) v5 → ((nv (zA σ 10 0) s (v5 - s - 1).toNat ≤ 65535 ∧ v4 = nv (zA σ 10 0) s (v5 - s - 1).toNat) ∨ (65535 < nv (zA σ 10 0) s (v5 - s - 1).toNat ∧ v4 = 65536)) → wpX9_readNumber_48 s v4 v5 σ Q := by
    intro v4 v5 h4 h5 h6
    unfold wpX9_readNumber_48 wpX9_readNumber_61
    exact ⟨by omega, fun _ => x_put hT ⟨by decide, h4, by omega, fun q => absurd q (by decide)⟩ hs (fun τ a b c => hQ _ _ 2 v4 a b h5 (Or.inl (by omega)) c), fun _ => x_put hT ⟨by decide, h4, by omega, fun q => absurd q (by decide)⟩ hs (fun τ a b c => hQ _ _ 1 v4 a b h5 (Or.inr (by omega)) c)⟩
  refine lfp2_ind (fun _ v _ => (480 - v).toNat) (fun v4 v5 τ => τ = σ ∧ (0 ≤ v4 ∧ v4 ≤ 65536) ∧ s ≤ v5 ∧ v5 ≤ L ∧ (∀ j : Int, s ≤ j → j < v5 → cD (zA σ 10 0 j)) ∧ ((v5 = s ∧ v4 = 0) ∨ (s < v5 ∧ ((nv (zA σ 10 0) s (v5 - s - 1).toNat ≤ 65535 ∧ v4 = nv (zA σ 10 0) s (v5 - s - 1).toNat) ∨ (65535 < nv (zA σ 10 0) s (v5 - s - 1).toNat ∧ v4 = 65536))))) (fun K v4 v5 τ hI ih => ?_) ⟨rfl, by decide, by omega, by omega, fun j a b => by omega, Or.inl ⟨rfl, rfl⟩⟩
  obtain ⟨e, h4, h5, h6, hr, hn⟩ := hI
  rw [e]
  have fin : (v5 = L ∨ ¬ cD (zA σ 10 0 v5)) → wpX9_readNumber_48 s v4 v5 σ Q := by
    intro hz
    rcases hn with ⟨n1, n2⟩ | ⟨n1, n2⟩
    · exfalso
      rcases hz with hz | hz
      · omega
      · rw [n1] at hz; exact hz hd
    · exact f48 v4 v5 h4 ⟨by omega, h6, fun j a b => hr j (by omega) b, hz⟩ n2
  unfold wpbX9_readNumber_6
  refine ⟨by omega, by omega, fun a => fin (Or.inl (by omega)), fun a => ⟨by omega, ?_⟩⟩
  have hc := hX.2.1 v5 (by omega) (by omega)
  refine c_isDigit (by omega) (fun q => ⟨by decide, fun q' => absurd q' (by decide), fun _ => ?_⟩) (fun q => ⟨by decide, fun _ => fin (Or.inr q), fun q' => absurd rfl q'⟩)
  have q0 := q
  unfold cD at q
  refine ⟨by omega, ih _ _ _ ⟨rfl, by omega, by omega, by omega, fun j j0 j1 => ?_, Or.inr ⟨by omega, ?_⟩⟩ (by omega)⟩
  · by_cases ej : j = v5
    · rw [ej]; exact q0
    · exact hr j j0 (by omega)
  · rcases hn with ⟨n1, n2⟩ | ⟨n1, n2⟩
    · rw [n1, show (s + 1 - s - 1).toNat = 0 by omega]
      show (zA σ 10 0 s - 48 ≤ 65535 ∧ _ = zA σ 10 0 s - 48) ∨ _
      rw [n1] at q
      left; rw [n2]; omega
    · have en : nv (zA σ 10 0) s (v5 + 1 - s - 1).toNat = if nv (zA σ 10 0) s (v5 - s - 1).toNat ≤ 100000 then 10 * nv (zA σ 10 0) s (v5 - s - 1).toNat + zA σ 10 0 v5 - 48 else nv (zA σ 10 0) s (v5 - s - 1).toNat := by
        rw [show (v5 + 1 - s - 1).toNat = (v5 - s - 1).toNat + 1 by omega]
        show (if _ then 10 * _ + zA σ 10 0 (s + 1 + ((v5 - s - 1).toNat : Int)) - 48 else _) = _
        rw [show s + 1 + ((v5 - s - 1).toNat : Int) = v5 by omega]
      rw [en]
      split <;> omega
/-- what reading a word puts -/
def xRW (σ τ : ZS) (h : Int → Int) (s x t v : Int) : Prop := (6 < x - s ∧ t = 1 ∧ ob τ 11 = ob σ 11) ∨ (x - s ≤ 6 ∧ ∃ c : Int, cdOf zwords (wv h s (x - s).toNat) c ∧ ((c = -1 ∧ t = 3 ∧ xNam σ τ (pkv h s (x - s).toNat) v) ∨ (((0 ≤ c ∧ c < 8 ∧ t = 4 ∧ v = c) ∨ (8 ≤ c ∧ c < 12 ∧ t = 5 ∧ v = c - 8) ∨ (12 ≤ c ∧ c < 48 ∧ t = 6 ∧ v = c - 12)) ∧ ob τ 11 = ob σ 11)))
theorem xNam.k {σ τ υ : ZS} {w x : Int} (h : xNam σ τ w x) (e : ob υ 11 = ob τ 11) : xNam σ υ w x := by
  rcases h with ⟨a, b, c, d⟩ | ⟨a, b, c, d, f⟩
  · exact Or.inl ⟨a, b, c, e.trans d⟩
  · exact Or.inr ⟨a, b, (ob_I e 5).trans c, (ob_A e 0).trans d, fun q => by rw [ob_I e 6]; exact f (by rw [← ob_I e 5]; exact q)⟩
theorem x_readWord {σ : ZS} {s L : Int} {Q : Int → ZS → Prop} (hX : TX σ) (hR : RD σ) (hb : 0 ≤ s ∧ s < L ∧ L ≤ 480) (hd : cL (zA σ 10 0 s)) (hs : zI σ 12 3 ≤ 480) (h9 : zI σ 11 5 ≤ 239) (hQ : ∀ (x : Int) (τ : ZS) (t v : Int), RD τ → kp [11, 12] σ τ → isRun (fun j => cL (zA σ 10 0 j) ∨ cD (zA σ 10 0 j)) L (s + 1) x → xRW σ τ (zA σ 10 0) s x t v → xPut σ τ t v s → Q x τ) : wpX9_readWord s L σ Q := by
  obtain ⟨rS, rR, rF, rT⟩ := hR
  unfold wpX9_readWord wpX9_readWord_6
  have f144 : ∀ (v4 v7 v8 : Int) (υ : ZS), isRun (fun j => cL (zA σ 10 0 j) ∨ cD (zA σ 10 0 j)) L (s + 1) v4 → RD υ → kp [11] σ υ → TK (zI υ 11 5) v7 v8 s → (∀ τ : ZS, ob τ 11 = ob υ 11 → xRW σ τ (zA σ 10 0) s v4 v7 v8) → wpX9_readWord_144 s v4 v7 v8 υ Q := by
    intro v4 v7 v8 υ h1 hr hk ht hx
    obtain ⟨uS, uR, uF, uT⟩ := hr
    have e12 := hk 12 (by decide)
    unfold wpX9_readWord_144
    refine x_put uT ht (by rw [ob_I e12 3]; omega) (fun τ a b c => hQ _ _ v7 v8 ⟨uS.k (b 11 (by decide)), uR.k (b 11 (by decide)), uF.k (b 11 (by decide)), a⟩ ((hk.up (by decide)).tr (b.up (by decide))) h1 (hx τ (b 11 (by decide))) ?_)
    unfold xPut at c
    rw [ob_I e12 3, ob_A e12 0, ob_A e12 1, ob_A e12 2] at c
    exact c
  have go : ∀ v4 v5 : Int, isRun (fun j => cL (zA σ 10 0 j) ∨ cD (zA σ 10 0 j)) L (s + 1) v4 → v5 = pkv (zA σ 10 0) s (v4 - s).toNat → wpX9_readWord_52 s v4 v5 σ Q := by
    intro v4 v5 h1 h5
    have hle := h1.2.1
    have hge := h1.1
    have hpos : ∀ j : Int, s ≤ j → j < v4 → 0 < zA σ 10 0 j := fun j j0 j1 => by
      by_cases ej : j = s
      · rw [ej]; unfold cL at hd; omega
      · have := h1.2.2.1 j (by omega) j1
        unfold cL cD at this; omega
    unfold wpX9_readWord_52
    refine ⟨by omega, fun a => ?_, fun a => x_put rT ⟨by decide, by decide, by omega, fun q => absurd q (by decide)⟩ hs (fun τ t1 b c => hQ _ _ 1 0 ⟨rS.k (b 11 (by decide)), rR.k (b 11 (by decide)), rF.k (b 11 (by decide)), t1⟩ (b.up (by decide)) h1 (Or.inl ⟨by omega, rfl, b 11 (by decide)⟩) c)⟩
    have h5' : 0 ≤ v5 ∧ v5 ≤ 4398046511103 := by
      rw [h5]
      exact pkv_6 (by omega) (fun j j0 j1 => by have := hX.2.1 j (by omega) (by omega); omega)
    refine x_ordinal1 hX (by omega) hpos (fun x1 y1 => ?_)
    rcases y1 with ⟨y1, z1⟩ | ⟨k, y1, hk, z1⟩
    rotate_left
    · refine ⟨by omega, fun _ => ?_, fun q => absurd q (by omega)⟩
      unfold wpX9_readWord_104 wpX9_readWord_124
      refine ⟨by omega, fun _ => ⟨by omega, fun _ => f144 _ _ _ _ h1 ⟨rS, rR, rF, rT⟩ kp.rf ⟨by decide, by omega, by omega, fun q => absurd q (by decide)⟩ (fun τ eτ => Or.inr ⟨by omega, ((0 + k : Nat) : Int), cd_of (by omega) z1, Or.inr ⟨Or.inl ⟨by omega, by omega, rfl, by omega⟩, eτ⟩⟩), fun q => absurd q (by omega)⟩, fun q => absurd q (by omega)⟩
    refine ⟨by omega, fun q => absurd q (by omega), fun _ => x_ordinal2 hX (by omega) hpos (fun x2 y2 => ?_)⟩
    unfold wpX9_readWord_104
    rcases y2 with ⟨y2, z2⟩ | ⟨k, y2, hk, z2⟩
    rotate_left
    · refine ⟨by omega, fun _ => ?_, fun q => absurd q (by omega)⟩
      unfold wpX9_readWord_124
      exact ⟨by omega, fun _ => f144 _ _ _ _ h1 ⟨rS, rR, rF, rT⟩ kp.rf ⟨by decide, by omega, by omega, fun q => absurd q (by decide)⟩ (fun τ eτ => Or.inr ⟨by omega, ((8 + k : Nat) : Int), cd_of (by omega) z2, Or.inr ⟨Or.inr (Or.inl ⟨by omega, by omega, rfl, by omega⟩), eτ⟩⟩), fun q => absurd q (by omega)⟩
    refine ⟨by omega, fun q => absurd q (by omega), fun _ => x_ordinal3 hX (by omega) hpos (fun x3 y3 => ?_)⟩
    unfold wpX9_readWord_124
    rcases y3 with ⟨y3, z3⟩ | ⟨k, y3, hk, z3⟩
    rotate_left
    · exact ⟨by omega, fun _ => f144 _ _ _ _ h1 ⟨rS, rR, rF, rT⟩ kp.rf ⟨by decide, by omega, by omega, fun q => absurd q (by decide)⟩ (fun τ eτ => Or.inr ⟨by omega, ((12 + k : Nat) : Int), cd_of (by omega) z3, Or.inr ⟨Or.inr (Or.inr ⟨by omega, by omega, rfl, by omega⟩), eτ⟩⟩), fun q => absurd q (by omega)⟩
    refine ⟨by omega, fun q => absurd q (by omega), fun _ => x_numberOf rS rR rF h5' (by omega) h9 (fun x τ aS aR aF ak an ax ay => ?_)⟩
    have e12 := ak 12 (by decide)
    exact f144 _ _ _ _ h1 ⟨aS, aR, aF, rT.mo e12 an⟩ ak ⟨by decide, by have := aS.1; omega, by omega, fun _ => ax.2⟩ (fun υ eυ => Or.inr ⟨by omega, -1, cd_no z1 z2 z3, Or.inl ⟨rfl, rfl, by rw [← h5]; exact ay.k eυ⟩⟩)
  refine lfp2_ind (fun v _ _ => (480 - v).toNat) (fun v4 v5 τ => τ = σ ∧ v5 = pkv (zA σ 10 0) s (v4 - s).toNat ∧ s ≤ v4 ∧ v4 ≤ L ∧ ∀ j : Int, s ≤ j → j < v4 → cL (zA σ 10 0 j) ∨ cD (zA σ 10 0 j)) (fun K v4 v5 τ hI ih => ?_) ⟨rfl, by rw [Int.sub_self]; rfl, by omega, by omega, fun j a b => by omega⟩
  obtain ⟨e, h5, h4, h6, hr⟩ := hI
  rw [e]
  have f32 : v4 < L → (cL (zA σ 10 0 v4) ∨ cD (zA σ 10 0 v4)) → wpX9_readWord_32 K s L v4 v5 σ Q := by
    intro q q2
    have hc := hX.2.1 v4 (by omega) (by omega)
    unfold wpX9_readWord_32
    refine ⟨by omega, by omega, ih _ _ _ ⟨rfl, ?_, by omega, by omega, fun j j0 j1 => ?_⟩ (by omega)⟩
    · rw [show (v4 + 1 - s).toNat = (v4 - s).toNat + 1 by omega]
      show v5 * 128 + zA σ 10 0 v4 = pkv (zA σ 10 0) s (v4 - s).toNat * 128 + zA σ 10 0 (s + ((v4 - s).toNat : Nat))
      rw [← h5, show s + (((v4 - s).toNat : Nat) : Int) = v4 by omega]
    · by_cases ej : j = v4
      · rw [ej]; exact q2
      · exact hr j j0 (by omega)
  have fin : (v4 = L ∨ ¬ (cL (zA σ 10 0 v4) ∨ cD (zA σ 10 0 v4))) → wpX9_readWord_52 s v4 v5 σ Q := by
    intro hz
    have : s < v4 := by
      rcases hz with hz | hz
      · omega
      · by_cases e5 : v4 = s
        · rw [e5] at hz; exact absurd (Or.inl hd) hz
        · omega
    exact go v4 v5 ⟨by omega, h6, fun j a b => hr j (by omega) b, hz⟩ h5
  unfold wpbX9_readWord_6
  refine ⟨by omega, by omega, fun a => fin (Or.inl (by omega)), fun a => ⟨by omega, ?_⟩⟩
  have hc := hX.2.1 v4 (by omega) (by omega)
  refine c_isLetter (by omega) (fun q => ⟨by decide, fun _ => f32 (by omega) (Or.inl q), fun q' => absurd q' (by decide)⟩) (fun q => ⟨by decide, fun q' => absurd rfl q', fun _ => ?_⟩)
  exact c_isDigit (by omega) (fun q2 => ⟨by decide, fun q' => absurd q' (by decide), fun _ => f32 (by omega) (Or.inr q2)⟩) (fun q2 => ⟨by decide, fun _ => fin (Or.inr (fun z => z.elim q q2)), fun q' => absurd rfl q'⟩)
