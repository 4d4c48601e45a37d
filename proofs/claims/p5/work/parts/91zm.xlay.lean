/-! X: the reference lays its pieces, exactly -/
/-- laid, up to piece k -/
def Lx (σ τ : ZS) (k : Nat) : Prop := (∀ s : Int, 0 ≤ s → s < zI σ 0 34 → zA τ 0 36 s = oP (zA σ 0 24) (zA σ 0 25) (zA σ 0 28) (zA σ 0 30) s k) ∧ (∀ p : Int, 0 ≤ p → p < k → zA τ 0 29 p = oP (zA σ 0 24) (zA σ 0 25) (zA σ 0 28) (zA σ 0 30) (zA σ 0 28 p) p.toNat) ∧ (∀ n : Int, 0 ≤ lP (zA σ 0 24) (zA σ 0 25) n k → zA τ 0 16 n = oP (zA σ 0 24) (zA σ 0 25) (zA σ 0 28) (zA σ 0 30) (zA σ 0 28 (lP (zA σ 0 24) (zA σ 0 25) n k)) (lP (zA σ 0 24) (zA σ 0 25) n k).toNat)
theorem x_lay {σ : ZS} {Q : ZS → Prop} (h3 : G3 σ) (hO : OFs σ) (hS : Sg σ) (hQ : ∀ τ : ZS, fr [] [16, 29, 36] σ τ → OFs τ → Lyp τ → Lx σ τ (zI σ 0 31).toNat → Q τ) : wpX11_lay σ Q := by
  obtain ⟨hp, hs, hg⟩ := hS
  unfold wpX11_lay wpX11_lay_2
  refine lfp1_ind (fun v _ => (80 - v).toNat) (fun v τ => (0 ≤ v ∧ v ≤ zI σ 0 34) ∧ fr [] [36] σ τ ∧ (∀ j : Int, 0 ≤ j → j < v → zA τ 0 36 j = 0)) ?_ ⟨by omega, fr.rf, fun j a b => by omega⟩
  intro P v τ hI hP
  obtain ⟨hv, hf, hz⟩ := hI
  have i34 := hf.1 34 (by decide)
  unfold wpbX11_lay_2
  rw [i34]
  refine ⟨by omega, by omega, fun q => ?_, fun q => ⟨by omega, hP _ _ ⟨by omega, hf.ta (by decide), fun j j0 j1 => ?_⟩ (by omega)⟩⟩
  rotate_left
  · show zu (zA τ 0 36) v 0 j = 0
    by_cases e : j = v
    · rw [e, pu_eq]
    · rw [pu_ne e]; exact hz j j0 (by omega)
  have hsum0 : psum (zA τ 0 36) (zI σ 0 34).toNat = 0 := by
    rw [psum_ext (g := fun _ => 0) _ (fun j a b => hz j a (by omega))]
    generalize (zI σ 0 34).toNat = n
    induction n with
    | zero => rfl
    | succ n ih => show psum (fun _ => 0) n + 0 = 0; omega
  have hf3 : fr [] [16, 29, 36] σ τ := hf.up (by decide) (by decide)
  unfold wpX11_lay_25
  refine lfp1_ind (fun k _ => (1200 - k).toNat) (fun k υ => (0 ≤ k ∧ k ≤ zI σ 0 31) ∧ fr [] [16, 29, 36] σ υ ∧ OFs υ ∧ (∀ s : Int, 0 ≤ s → s < zI σ 0 34 → 0 ≤ zA υ 0 36 s ∧ zA υ 0 36 s ≤ 64 * k) ∧ (∀ p : Int, 0 ≤ p → p < k → 0 ≤ zA υ 0 29 p ∧ zA υ 0 29 p ≤ 62000 ∧ zA υ 0 29 p + szp σ p ≤ zA υ 0 36 (zA σ 0 28 p)) ∧ psum (zA υ 0 36) (zI σ 0 34).toNat = psum (szp σ) k.toNat ∧ Lx σ υ k.toNat) ?_ ⟨by omega, hf3, (by unfold OFs; rw [hf.2 16 (by decide)]; exact hO), fun s a b => by rw [hz s a (by omega)]; omega, fun p a b => by omega, hsum0, fun s a b => hz s a (by omega), fun p a b => absurd (show p < 0 from b) (by omega), fun n a => absurd (show (0 : Int) ≤ -1 from a) (by decide)⟩
  intro P2 k υ hI2 hP2
  obtain ⟨hk, hfu, hOu, hsz, hat, hsum, lx1, lx2, lx3⟩ := hI2
  have j31 := hfu.1 31 (by decide)
  have a24 := hfu.2 24 (by decide); have a25 := hfu.2 25 (by decide); have a28 := hfu.2 28 (by decide); have a30 := hfu.2 30 (by decide)
  have hszp := szp_eq a24 a25 a30
  have h3u : G3 υ := by unfold G3; rw [a24, a25, hfu.2 26 (by decide), hfu.2 27 (by decide), a28, a30]; exact h3
  unfold wpbX11_lay_25
  rw [j31, a28, a24, a25]
  refine ⟨by omega, by omega, fun q2 => hQ υ hfu hOu ⟨?_, ?_, ?_⟩ ?_, fun q2 => ?_⟩
  · intro s a b
    rw [hfu.1 34 (by decide)] at b
    have := hsz s a b; omega
  · intro p a b
    rw [j31] at b
    rw [a28, hszp]
    exact hat p a (by omega)
  · rw [hfu.1 34 (by decide), j31, hszp, hsum, show k = zI σ 0 31 by omega]
  · rw [show zI σ 0 31 = k by omega]; exact ⟨lx1, lx2, lx3⟩
  · obtain ⟨q1, q2', q3, q4, q5, q6, q7, q8⟩ := h3 k hk.1 (by omega)
    have hseg := hg k hk.1 (by omega)
    have hsk := hsz (zA σ 0 28 k) hseg.1 hseg.2
    have hzb := szp_bd h3 hk.1 (by omega)
    have hnn : ∀ s : Int, 0 ≤ s → s < ((zI σ 0 34).toNat : Int) → 0 ≤ zA υ 0 36 s := fun s a b => (hsz s a (by omega)).1
    have ek : (k + 1).toNat = k.toNat + 1 := by omega
    have ekk : ((k.toNat : Nat) : Int) = k := by omega
    have os : ∀ s : Int, oP (zA σ 0 24) (zA σ 0 25) (zA σ 0 28) (zA σ 0 30) s (k + 1).toNat = oP (zA σ 0 24) (zA σ 0 25) (zA σ 0 28) (zA σ 0 30) s k.toNat + (if zA σ 0 28 k = s then szp σ k else 0) := by
      intro s
      rw [ek]
      show oP (zA σ 0 24) (zA σ 0 25) (zA σ 0 28) (zA σ 0 30) s k.toNat + (if zA σ 0 28 (k.toNat : Int) = s then szf (zA σ 0 24 (k.toNat : Int)) (zA σ 0 25 (k.toNat : Int)) (zA σ 0 30 (k.toNat : Int)) else 0) = _
      rw [ekk]; rfl
    have ls : ∀ n : Int, lP (zA σ 0 24) (zA σ 0 25) n (k + 1).toNat = if zA σ 0 24 k = 7 ∧ zA σ 0 25 k = n then k else lP (zA σ 0 24) (zA σ 0 25) n k.toNat := by
      intro n
      rw [ek]
      show (if zA σ 0 24 (k.toNat : Int) = 7 ∧ zA σ 0 25 (k.toNat : Int) = n then (k.toNat : Int) else lP (zA σ 0 24) (zA σ 0 25) n k.toNat) = _
      rw [ekk]
    -- the step
    have go : ∀ ω : ZS, fr [] [16, 29, 36] σ ω → OFs ω → zA ω 0 36 = zA υ 0 36 → zA ω 0 29 = zu (zA υ 0 29) k (zA υ 0 36 (zA σ 0 28 k)) → (zA σ 0 24 k = 7 → zA ω 0 16 = zu (zA υ 0 16) (zA σ 0 25 k) (zA υ 0 36 (zA σ 0 28 k))) → (zA σ 0 24 k ≠ 7 → zA ω 0 16 = zA υ 0 16) → wpX11_lay_80 P2 k (zA σ 0 28 k) ω Q := by
      intro ω hfw hOw e36 e29 e16 n16
      have b24 := hfw.2 24 (by decide); have b25 := hfw.2 25 (by decide); have b30 := hfw.2 30 (by decide); have b28 := hfw.2 28 (by decide)
      have hszw := szp_eq b24 b25 b30
      have h3w : G3 ω := by unfold G3; rw [b24, b25, hfw.2 26 (by decide), hfw.2 27 (by decide), b28, b30]; exact h3
      unfold wpX11_lay_80
      refine ⟨by omega, s_sizeOf h3w (by omega) ?_⟩
      rw [hszw, e36]
      have c36 : zA (zsA ω 0 36 (zA σ 0 28 k) (zA υ 0 36 (zA σ 0 28 k) + szp σ k)) 0 36 = zu (zA υ 0 36) (zA σ 0 28 k) (zA υ 0 36 (zA σ 0 28 k) + szp σ k) := by
        show zu (zA ω 0 36) _ _ = _; rw [e36]
      refine hP2 _ _ ⟨by omega, hfw.ta (by decide), hOw, fun s a b => ?_, fun p a b => ?_, ?_, fun s a b => ?_, fun p a b => ?_, fun n a => ?_⟩ (by omega)
      · rw [c36]
        have := hsz s a b
        by_cases e : s = zA σ 0 28 k
        · rw [e, pu_eq]; omega
        · rw [pu_ne e]; omega
      · rw [c36]
        show 0 ≤ zA ω 0 29 p ∧ zA ω 0 29 p ≤ 62000 ∧ zA ω 0 29 p + szp σ p ≤ _
        rw [e29]
        by_cases e : p = k
        · rw [e, pu_eq, pu_eq]; omega
        · rw [pu_ne e]
          have hh := hat p a (by omega)
          refine ⟨hh.1, hh.2.1, ?_⟩
          by_cases e2 : zA σ 0 28 p = zA σ 0 28 k
          · rw [e2, pu_eq]; rw [e2] at hh; omega
          · rw [pu_ne e2]; exact hh.2.2
      · rw [c36, psum_zu _ hseg.1 (by omega), hsum, show (k + 1).toNat = k.toNat + 1 by omega]
        show psum (szp σ) k.toNat + szp σ k = psum (szp σ) k.toNat + szp σ ((k.toNat : Nat) : Int)
        rw [show ((k.toNat : Nat) : Int) = k by omega]
      · rw [c36, os]
        by_cases e : s = zA σ 0 28 k
        · rw [e, pu_eq, if_pos rfl, lx1 _ hseg.1 hseg.2]
        · rw [pu_ne e, if_neg (fun z => e z.symm), lx1 s a b]; omega
      · show zA ω 0 29 p = _
        rw [e29]
        by_cases e : p = k
        · rw [e, pu_eq]; exact lx1 _ hseg.1 hseg.2
        · rw [pu_ne e]; exact lx2 p a (by omega)
      · show zA ω 0 16 n = _
        rw [ls] at a ⊢
        by_cases c7 : zA σ 0 24 k = 7
        · rw [e16 c7]
          by_cases en : zA σ 0 25 k = n
          · rw [if_pos ⟨c7, en⟩, ← en, pu_eq]; exact lx1 _ hseg.1 hseg.2
          · rw [if_neg (fun z => en z.2)] at a ⊢
            rw [pu_ne (fun z => en z.symm)]; exact lx3 n a
        · rw [n16 c7]
          rw [if_neg (fun z => c7 z.1)] at a ⊢
          exact lx3 n a
    refine ⟨by omega, by omega, by omega, fun n7 => go _ (hfu.ta (by decide)) hOu rfl rfl (fun q => absurd q n7) (fun _ => rfl), fun e7 => ⟨q2' (by omega) (by omega), go _ ((hfu.ta (by decide)).ta (by decide)) ?_ rfl rfl (fun _ => rfl) (fun q => absurd e7 q)⟩⟩
    intro n n0 n1
    show 0 ≤ zu (zA υ 0 16) (zA σ 0 25 k) (zA υ 0 36 (zA σ 0 28 k)) n ∧ zu (zA υ 0 16) (zA σ 0 25 k) (zA υ 0 36 (zA σ 0 28 k)) n ≤ 62000
    by_cases e : n = zA σ 0 25 k
    · rw [e, pu_eq]; omega
    · rw [pu_ne e]; exact hOu n n0 n1
/-- the pieces of the reference are the walk's -/
def PX (a b c : Int → Int) (N : Nat) (σ : ZS) : Prop := (∀ j : Nat, j < N → 0 ≤ a j ∧ a j ≤ 12) ∧ ¬ (yF a b c N).bad ∧ YP σ (yF a b c N)
/-- jumps that are near, by items -/
def xR (a b c : Int → Int) (σ : ZS) : Int → Int := fun i => zA σ 0 30 (PI a b c i)
theorem PX.k {a b c : Int → Int} {N : Nat} {σ τ : ZS} (h : PX a b c N σ) (e31 : zI τ 0 31 = zI σ 0 31) (e24 : zA τ 0 24 = zA σ 0 24) (e25 : zA τ 0 25 = zA σ 0 25) (e26 : zA τ 0 26 = zA σ 0 26) (e28 : zA τ 0 28 = zA σ 0 28) : PX a b c N τ := ⟨h.1, h.2.1, h.2.2.k e31 e24 e25 e26 e28⟩
/-- bytes before item k, in the reference's arrays -/
theorem PX.oP {a b c : Int → Int} {N : Nat} {σ : ZS} (h : PX a b c N σ) (s : Int) (k : Nat) (hk : k ≤ N) : oP (zA σ 0 24) (zA σ 0 25) (zA σ 0 28) (zA σ 0 30) s (PI a b c k).toNat = oS a b (gI a b c) (xR a b c σ) s k := by
  obtain ⟨ht, hb, e31, hp⟩ := h
  have pre := yF_pre (a := a) (b := b) (c := c) (m := k) N hk ht
  have nbk : ∀ m : Nat, m ≤ N → ¬ (yF a b c (N - m)).bad := by
    intro m
    induction m with
    | zero => intro _; exact hb
    | succ m ih =>
      intro hm
      have h1 := ih (by omega)
      rw [show N - m = (N - (m + 1)) + 1 by omega] at h1
      exact (yI_bad (ht _ (by omega)).1 (ht _ (by omega)).2 (show ¬ (yI _ _ _ _).bad from h1)).1
  have nb : ¬ (yF a b c k).bad := by
    have := nbk (N - k) (by omega)
    rw [show N - (N - k) = k by omega] at this
    exact this
  have w := yF_oP (a := a) (b := b) (c := c) (zA σ 0 30) s k (fun j hj => ht j (by omega)) nb
  have n0 := yF_np (a := a) (b := b) (c := c) k (fun j hj => ht j (by omega))
  have ep : PI a b c k = (yF a b c k).np := by unfold PI; rw [show ((k : Int)).toNat = k by omega]
  rw [ep]
  unfold xR
  rw [← w]
  unfold oPd
  have p1 := pre.1
  refine oP_cg _ (fun j hj => ?_)
  obtain ⟨x1, x2, x3, x4⟩ := hp j (by omega) (by omega)
  obtain ⟨y1, y2, y3, y4⟩ := pre.2 j (by omega)
  exact ⟨x1.trans y1, x2.trans y2, x4.trans y4⟩
theorem PX.np {a b c : Int → Int} {N : Nat} {σ : ZS} (h : PX a b c N σ) : zI σ 0 31 = PI a b c N := by
  obtain ⟨ht, hb, e31, hp⟩ := h
  rw [e31]
  unfold PI
  rw [show ((N : Int)).toNat = N by omega]
theorem PX.lP {a b c : Int → Int} {N : Nat} {σ : ZS} (h : PX a b c N σ) (n : Int) : lP (zA σ 0 24) (zA σ 0 25) n (zI σ 0 31).toNat = if lI a c n N < 0 then -1 else PI a b c (lI a c n N) := by
  obtain ⟨ht, hb, e31, hp⟩ := h
  rw [← yF_lP n N ht hb, e31]
  unfold lPd
  refine lP_cg _ (fun j hj => ?_)
  obtain ⟨x1, x2, x3, x4⟩ := hp j (by omega) (by omega)
  exact ⟨x1, x2⟩
/-- where an item's piece stands, in the reference's arrays -/
theorem PX.fw {a b c : Int → Int} {N : Nat} {σ : ZS} (h : PX a b c N σ) (j : Int) (j0 : 0 ≤ j) (hj : j < N) (t : a j = 1 ∨ a j = 9 ∨ a j = 10) : (0 ≤ PI a b c j ∧ PI a b c j < zI σ 0 31) ∧ zA σ 0 24 (PI a b c j) = kI (a j) ∧ zA σ 0 25 (PI a b c j) = c j ∧ zA σ 0 28 (PI a b c j) = gI a b c j := by
  obtain ⟨ht, hb, e31, hp⟩ := h
  have ej : ((j.toNat : Nat) : Int) = j := by omega
  have w := yF_fw (a := a) (b := b) (c := c) N ht hb j.toNat (by omega) (by rw [ej]; exact t)
  rw [ej] at w
  have n0 : 0 ≤ PI a b c j := by
    unfold PI
    exact yF_np _ (fun i hi => ht i (by omega))
  obtain ⟨x1, x2, x3, x4⟩ := hp (PI a b c j) n0 w.1
  exact ⟨⟨n0, by rw [e31]; exact w.1⟩, x1.trans w.2.1, x2.trans w.2.2.1, x4.trans w.2.2.2⟩
theorem PX.bw {a b c : Int → Int} {N : Nat} {σ : ZS} (h : PX a b c N σ) (p : Int) (p0 : 0 ≤ p) (p1 : p < zI σ 0 31) (t : zA σ 0 24 p = 4 ∨ zA σ 0 24 p = 5) : ∃ j : Int, 0 ≤ j ∧ j < N ∧ ((a j = 9 ∧ zA σ 0 24 p = 4) ∨ (a j = 10 ∧ zA σ 0 24 p = 5)) ∧ p = PI a b c j := by
  obtain ⟨ht, hb, e31, hp⟩ := h
  obtain ⟨x1, x2, x3, x4⟩ := hp p p0 (by rw [← e31]; exact p1)
  rw [x1] at t ⊢
  obtain ⟨j, j1, j2, j3⟩ := yF_bw (a := a) (b := b) (c := c) N ht p p0 (by rw [← e31]; exact p1) t
  exact ⟨j, by omega, by omega, j2, j3⟩
/-- the reference's distance is the item's -/
theorem Lx.d {a b c r : Int → Int} {N : Nat} {σ τ : ZS} {j : Int} (h : PX a b c N σ) (hl : Lx σ τ (zI σ 0 31).toNat) (j0 : 0 ≤ j) (hj : j < N) (t : a j = 9 ∨ a j = 10) (hh : 0 ≤ lI a c (c j) N ∧ gI a b c (lI a c (c j) N) = gI a b c j) : zA τ 0 16 (c j) - zA τ 0 29 (PI a b c j) - szp σ (PI a b c j) = dS a b c (gI a b c) (xR a b c σ) N j := by
  obtain ⟨f1, f2, f3, f4⟩ := h.fw j j0 hj (by omega)
  have lb : 0 ≤ lI a c (c j) N ∧ lI a c (c j) N < N ∧ a (lI a c (c j) N) = 1 ∧ c (lI a c (c j) N) = c j := by
    rcases lI_bd (a := a) (c := c) (n := c j) N with q | q
    · omega
    · exact q
  obtain ⟨l1, l2, l3, l4⟩ := h.fw (lI a c (c j) N) lb.1 lb.2.1 (Or.inl lb.2.2.1)
  have el := h.lP (c j)
  rw [if_neg (by omega)] at el
  have x16 := hl.2.2 (c j) (by rw [el]; exact l1.1)
  rw [el, l4, hh.2] at x16
  have x29 := hl.2.1 (PI a b c j) f1.1 (by omega)
  rw [f4] at x29
  have w1 := h.oP (gI a b c j) (lI a c (c j) N).toNat (by omega)
  have w2 := h.oP (gI a b c j) j.toNat (by omega)
  rw [show (((lI a c (c j) N).toNat : Nat) : Int) = lI a c (c j) N by omega] at w1
  rw [show ((j.toNat : Nat) : Int) = j by omega] at w2
  rw [x16, x29, w1, w2]
  have es : szp σ (PI a b c j) = sI a b (xR a b c σ) j := by
    unfold szp sI xR
    rw [f2, f3]
    rcases t with t | t
    · rw [t]; rfl
    · rw [t]; rfl
  rw [es]
  rfl
