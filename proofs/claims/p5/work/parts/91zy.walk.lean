/-! X: pieces and items put the same -/
theorem PX.nb {a b c : Int → Int} {N : Nat} {σ : ZS} (h : PX a b c N σ) {k : Nat} (hk : k ≤ N) : ¬ (yF a b c k).bad := by
  obtain ⟨ht, hb, -⟩ := h
  have nbk : ∀ m : Nat, m ≤ N → ¬ (yF a b c (N - m)).bad := by
    intro m
    induction m with
    | zero => intro _; exact hb
    | succ m ih =>
      intro hm
      have h1 := ih (by omega)
      rw [show N - m = (N - (m + 1)) + 1 by omega] at h1
      exact (yI_bad (ht _ (by omega)).1 (ht _ (by omega)).2 (show ¬ (yI _ _ _ _).bad from h1)).1
  have := nbk (N - k) (by omega)
  rw [show N - (N - k) = k by omega] at this
  exact this
theorem PX.q {a b c : Int → Int} {N : Nat} {σ : ZS} (h : PX a b c N σ) {k : Nat} (hk : k ≤ N) {q : Int} (q0 : 0 ≤ q) (q1 : q < (yF a b c k).np) : q < zI σ 0 31 ∧ zA σ 0 24 q = (yF a b c k).pk q ∧ zA σ 0 25 q = (yF a b c k).pa q ∧ zA σ 0 26 q = (yF a b c k).pb q ∧ zA σ 0 28 q = (yF a b c k).ps q := by
  obtain ⟨ht, hb, e31, hp⟩ := h
  have pre := yF_pre (a := a) (b := b) (c := c) (m := k) N hk ht
  have p1 := pre.1
  obtain ⟨x1, x2, x3, x4⟩ := hp q q0 (by omega)
  obtain ⟨y1, y2, y3, y4⟩ := pre.2 q q1
  exact ⟨by omega, x1.trans y1, x2.trans y2, x3.trans y3, x4.trans y4⟩
theorem PI_n {a b c : Int → Int} (k : Nat) : PI a b c k = (yF a b c k).np := by unfold PI; rw [show ((k : Int)).toNat = k by omega]
theorem gI_n {a b c : Int → Int} (k : Nat) : gI a b c k = (yF a b c (k + 1)).cur := by unfold gI; rw [show ((k : Int) + 1).toNat = k + 1 by omega]
/-- where a label lies, in the reference -/
theorem PX.lab {a b c X : Int → Int} {N : Nat} {γ : ZS} (px : PX a b c N γ) (lx : Lx γ γ (zI γ 0 31).toNat) (hx : ∀ j : Nat, j < N → a j = 9 → (xR a b c γ j = 0 ↔ X j = 0)) {n : Int} (h : 0 ≤ lI a c n N) : zA γ 0 16 n = loS a b c (gI a b c) X N n := by
  have lb : 0 ≤ lI a c n N ∧ lI a c n N < N ∧ a (lI a c n N) = 1 ∧ c (lI a c n N) = n := by
    rcases lI_bd (a := a) (c := c) (n := n) N with q | q
    · omega
    · exact q
  obtain ⟨l1, l2, l3, l4⟩ := px.fw (lI a c n N) lb.1 lb.2.1 (Or.inl lb.2.2.1)
  have el := px.lP n
  rw [if_neg (by omega)] at el
  have x16 := lx.2.2 n (by rw [el]; exact l1.1)
  rw [el, l4] at x16
  have w1 := px.oP (gI a b c (lI a c n N)) (lI a c n N).toNat (by omega)
  rw [show (((lI a c n N).toNat : Nat) : Int) = lI a c n N by omega] at w1
  rw [x16, w1]
  exact oS_cg _ (fun j hj t => hx j (by omega) t)
theorem mFW {d : MD} {k s p n i v : Int} : mW (mF d k s p n) i v = mF (mW d i v) k s p n := rfl
theorem mI_n {a b c g X r : Int → Int} {N : Nat} {d : MD} {i : Int} (h : a i ≤ 3 ∨ a i = 5) : mI a b c g X r N d i = d := by
  unfold mI
  by_cases q : g i < 0
  · rw [if_pos q]
  · rw [if_neg q, if_neg (by omega), if_neg (by omega), if_neg (by omega), if_neg (by omega), if_neg (by omega), if_neg (by omega), if_neg (by omega), if_neg (by omega)]
theorem qm {a b c r X : Int → Int} {N : Nat} {γ : ZS} (px : PX a b c N γ) (lx : Lx γ γ (zI γ 0 31).toNat) (hx : ∀ j : Nat, j < N → a j = 9 → (xR a b c γ j = 0 ↔ X j = 0)) (h13 : ∀ j : Int, 0 ≤ j → j < N → 7 ≤ a j → zA γ 0 13 (c j) = r (c j)) (h36 : ∀ s : Int, 0 ≤ s → s < zI γ 0 34 → zA γ 0 36 s = oS a b (gI a b c) X s N) (hsg : ∀ p : Int, 0 ≤ p → p < zI γ 0 31 → 0 ≤ zA γ 0 28 p ∧ zA γ 0 28 p < zI γ 0 34) (hlab : ∀ j : Int, 0 ≤ j → j < N → 7 ≤ a j → r (c j) = 2 → 0 ≤ lI a c (c j) N) (hj : HJx a b c (gI a b c) r N) (hc : ∀ j : Int, 0 ≤ j → j < N → a j = 11 → r (c j) = 3 ∨ (0 ≤ lI a c (c j) N ∧ gI a b c (lI a c (c j) N) = gI a b c j ∧ 0 ≤ gI a b c j)) (hsh : ∀ j : Int, 0 ≤ j → j < N → a j = 9 → X j = 0 → r (c j) ≠ 3) (h12 : ∀ j : Int, 0 ≤ j → j < N → a j = 12 → b j = 0) : ∀ k : Nat, k ≤ N → qK γ (PI a b c k).toNat = mK a b c (gI a b c) X r N k := by
  intro k
  induction k with
  | zero => intro _; rfl
  | succ k ih =>
    intro hk
    have ihk := ih (by omega)
    have n0 : 0 ≤ PI a b c k := by rw [PI_n]; exact yF_np k (fun j hj' => px.1 j (by omega))
    have nn : (yF a b c k).np = PI a b c k := (PI_n k).symm
    have yk : yF a b c (k + 1) = yI (yF a b c k) (a k) (b k) (c k) := rfl
    show qK γ (PI a b c ((k + 1 : Nat) : Int)).toNat = mI a b c (gI a b c) X r N (mK a b c (gI a b c) X r N k) k
    generalize hd : mK a b c (gI a b c) X r N k = d at ihk ⊢
    -- nothing is put
    have none : (yF a b c (k + 1)).np = (yF a b c k).np → (a k ≤ 3 ∨ a k = 5) → qK γ (PI a b c ((k + 1 : Nat) : Int)).toNat = mI a b c (gI a b c) X r N d k := by
      intro e t
      rw [mI_n t, PI_n, e, nn]; exact ihk
    have fit := oS_fit (a := a) (b := b) (g := gI a b c) (X := X) (N := N) (i := k) hj.2.2 (by omega) (by omega)
    have zer : ∀ o : Int, 0 ≤ gI a b c k → ofS a b (gI a b c) X k ≤ o → o < ofS a b (gI a b c) X k + sI a b X k → d.co (stS a b (gI a b c) X N (gI a b c k) + o) = 0 := by
      intro o g0 o0 o1
      rw [← hd]
      refine mZ hj.2.2 k (by omega) _ o g0 ?_ (by omega)
      have : ofS a b (gI a b c) X k = oS a b (gI a b c) X (gI a b c k) k := by unfold ofS; rw [show ((k : Int)).toNat = k by omega]
      omega
    have off : ∀ p : Int, 0 ≤ p → p < zI γ 0 31 → zA γ 0 28 p = gI a b c k → 0 ≤ gI a b c k ∧ ∀ o : Int, qO γ p o = stS a b (gI a b c) X N (gI a b c k) + o := by
      intro p p0 p1 e
      have s := hsg p p0 p1
      rw [e] at s
      refine ⟨s.1, fun o => ?_⟩
      unfold qO stS
      rw [e, psum_ext _ (fun j j0 j1 => h36 j j0 (by omega))]
    have at0 : PI a b c k < zI γ 0 31 → zA γ 0 28 (PI a b c k) = gI a b c k → zA γ 0 29 (PI a b c k) = ofS a b (gI a b c) X k := by
      intro p1 e
      have x := lx.2.1 (PI a b c k) n0 (by omega)
      rw [e, px.oP (gI a b c k) k (by omega), oS_cg k (fun j hj' t => hx j (by omega) t)] at x
      rw [x]; unfold ofS; rw [show ((k : Int)).toNat = k by omega]
    -- one piece
    have one : ∀ (e : YD) (kk aa bb : Int), yF a b c (k + 1) = yP e kk aa bb → e.np = (yF a b c k).np → PI a b c ((k + 1 : Nat) : Int) = PI a b c k + 1 ∧ PI a b c k < zI γ 0 31 ∧ zA γ 0 24 (PI a b c k) = kk ∧ zA γ 0 25 (PI a b c k) = aa ∧ zA γ 0 26 (PI a b c k) = bb ∧ zA γ 0 28 (PI a b c k) = gI a b c k := by
      intro e kk aa bb he en
      have np1 : (yF a b c (k + 1)).np = PI a b c k + 1 := by rw [he, ← nn, ← en]; rfl
      obtain ⟨x0, x1, x2, x3, x4⟩ := px.q (k := k + 1) hk n0 (by omega)
      have pe : PI a b c k = e.np := by rw [en, nn]
      refine ⟨by rw [PI_n]; exact np1, x0, ?_, ?_, ?_, ?_⟩
      · rw [x1, he, pe]; exact pu_eq
      · rw [x2, he, pe]; exact pu_eq
      · rw [x3, he, pe]; exact pu_eq
      · rw [x4, gI_n, he, pe]; exact pu_eq
    have step : PI a b c ((k + 1 : Nat) : Int) = PI a b c k + 1 → qI γ d (PI a b c k) = mI a b c (gI a b c) X r N d k → qK γ (PI a b c ((k + 1 : Nat) : Int)).toNat = mI a b c (gI a b c) X r N d k := by
      intro e h
      rw [e, qK_s n0, ihk]; exact h
    have dist : PI a b c k < zI γ 0 31 → zA γ 0 25 (PI a b c k) = c k → zA γ 0 28 (PI a b c k) = gI a b c k → szp γ (PI a b c k) = sI a b X k → (0 ≤ lI a c (c k) N ∧ gI a b c (lI a c (c k) N) = gI a b c k) → qD γ (PI a b c k) = dS a b c (gI a b c) X N k := by
      intro p1 e25 e28 es hl
      unfold qD dS
      rw [e25, px.lab lx hx hl.1, at0 p1 e28, es]
      unfold loS ofS
      rw [hl.2]
    have kN : ((k : Nat) : Int) < N := by omega
    have k0 : (0 : Int) ≤ ((k : Nat) : Int) := by omega
    have hcase : a k = 0 ∨ a k = 1 ∨ a k = 2 ∨ a k = 3 ∨ a k = 4 ∨ a k = 5 ∨ a k = 6 ∨ a k = 7 ∨ a k = 8 ∨ a k = 9 ∨ a k = 10 ∨ a k = 11 ∨ a k = 12 := by
      have := px.1 k (by omega)
      omega
    rcases hcase with t | t | t | t | t | t | t | t | t | t | t | t | t
    · refine none ?_ (by omega)
      rw [yk, t]
      show (ySeg (yF a b c k) (c k) (b k)).2.2.2.2.2.2.2.2 = _
      rw [ySeg_p]; rfl
    · have nb := px.nb (k := k + 1) hk
      rw [yk, t] at nb
      have yl : yF a b c (k + 1) = yLab (yF a b c k) (c k) := by rw [yk, t]; rfl
      have nb' : ¬ (yLab (yF a b c k) (c k)).bad := nb
      rw [yLab_eq] at nb' yl
      by_cases s0 : (yF a b c k).so (c k) = 0
      · rw [if_pos s0] at yl
        obtain ⟨e1, p1, e24, e25, e26, e28⟩ := one _ _ _ _ yl rfl
        refine step e1 ?_
        rw [mI_n (by omega)]
        unfold qI
        rw [e24, if_neg (by decide), if_neg (by decide), if_neg (by decide), if_neg (by decide), if_neg (by decide), if_neg (by decide), if_neg (by decide)]
      · rw [if_neg s0] at nb'
        exact absurd trivial nb'
    · refine none ?_ (by omega)
      rw [yk, t]; rfl
    · refine none ?_ (by omega)
      rw [yk, t]
      show (yExt (yF a b c k) (c k)).2.2.2.2.2.2.2.2 = _
      rw [yExt_p]; rfl
    · obtain ⟨e1, p1, e24, e25, e26, e28⟩ := one (yF a b c k) 0 (b k) 0 (by rw [yk, t]; rfl) rfl
      obtain ⟨g0, eo⟩ := off _ n0 p1 e28
      refine step e1 ?_
      unfold qI mI
      rw [e24, if_pos rfl, if_neg (by omega), if_pos t, eo, at0 p1 e28, e25]
    · obtain ⟨e1, p1, e24, e25, e26, e28⟩ := one (yF a b c k) 8 (b k) 0 (by rw [yk, t]; rfl) rfl
      refine step e1 ?_
      rw [mI_n (Or.inr t)]
      unfold qI
      rw [e24, if_neg (by decide), if_neg (by decide), if_neg (by decide), if_neg (by decide), if_neg (by decide), if_neg (by decide), if_neg (by decide)]
    · obtain ⟨e1, p1, e24, e25, e26, e28⟩ := one (yF a b c k) 1 (b k) 0 (by rw [yk, t]; rfl) rfl
      obtain ⟨g0, eo⟩ := off _ n0 p1 e28
      refine step e1 ?_
      unfold qI mI
      rw [e24, if_neg (by decide), if_pos rfl, if_neg (by omega), if_neg (by omega), if_pos t, eo, at0 p1 e28, e25]
    · obtain ⟨e1, p1, e24, e25, e26, e28⟩ := one (yU (yF a b c k) 1 (c k)) 2 (c k) (b k) (by rw [yk, t]; rfl) rfl
      obtain ⟨g0, eo⟩ := off _ n0 p1 e28
      refine step e1 ?_
      have hr := h13 k k0 kN (by omega)
      have hM : mI a b c (gI a b c) X r N d k = mOf a b c (gI a b c) X r N d k (ofS a b (gI a b c) X k) (b k) := by
        unfold mI
        rw [if_neg (by omega), if_neg (by omega), if_neg (by omega), if_pos t]
      rw [hM]
      unfold qI mOf
      rw [e24, if_neg (by decide), if_neg (by decide), if_pos rfl, eo, at0 p1 e28, e25, e26, e28, hr, mFW]
      by_cases r2 : r (c k) = 2
      · rw [if_pos r2, if_pos r2, px.lab lx hx (hlab k k0 kN (by omega) r2)]
      · rw [if_neg r2, if_neg r2]
    · obtain ⟨e1, p1, e24, e25, e26, e28⟩ := one (yU (yF a b c k) 1 (c k)) 3 (c k) 0 (by rw [yk, t]; rfl) rfl
      obtain ⟨g0, eo⟩ := off _ n0 p1 e28
      refine step e1 ?_
      have s2 : sI a b X k = 2 := by unfold sI; rw [if_neg (by omega), if_neg (by omega), if_neg (by omega), if_pos (by omega)]
      unfold qI mI
      rw [e24, if_neg (by decide), if_neg (by decide), if_neg (by decide), if_pos rfl, if_neg (by omega), if_neg (by omega), if_neg (by omega), if_neg (by omega), if_pos t, eo, at0 p1 e28, e25, e28, mFW, mW_0]
      · exact zer _ g0 (by omega) (by omega)
      · rw [Int.add_assoc]; exact zer _ g0 (by omega) (by omega)
    · obtain ⟨e1, p1, e24, e25, e26, e28⟩ := one (yU (yF a b c k) 3 (c k)) 4 (c k) 0 (by rw [yk, t]; rfl) rfl
      obtain ⟨g0, eo⟩ := off _ n0 p1 e28
      refine step e1 ?_
      have hr := h13 k k0 kN (by omega)
      have ex : zA γ 0 30 (PI a b c k) = 0 ↔ X k = 0 := hx k (by omega) t
      have hM : mI a b c (gI a b c) X r N d k = if X k = 0 then mB (mB d (stS a b (gI a b c) X N (gI a b c k) + ofS a b (gI a b c) X k) 235) (stS a b (gI a b c) X N (gI a b c k) + (ofS a b (gI a b c) X k + 1)) (dS a b c (gI a b c) X N k) else mNe a b c (gI a b c) X r N (mB d (stS a b (gI a b c) X N (gI a b c k) + ofS a b (gI a b c) X k) 233) k := by
        unfold mI
        rw [if_neg (by omega), if_neg (by omega), if_neg (by omega), if_neg (by omega), if_neg (by omega), if_pos t]
      rw [hM]
      unfold qI
      rw [e24, if_neg (by decide), if_neg (by decide), if_neg (by decide), if_neg (by decide), if_pos rfl, eo, eo, at0 p1 e28]
      by_cases x0 : X k = 0
      · rw [if_pos (ex.mpr x0), if_pos x0]
        have s2 : sI a b X k = 2 := by unfold sI; rw [if_neg (by omega), if_neg (by omega), if_pos t, if_pos x0]
        have hl := (hj.1 k k0 kN t).resolve_left (hsh k k0 kN t x0)
        rw [dist p1 e25 e28 (by rw [s2]; unfold szp szf; rw [e24, if_neg (by decide), if_pos rfl, if_pos (ex.mpr x0)]) ⟨hl.1, hl.2.1⟩]
      · have nx : ¬ zA γ 0 30 (PI a b c k) = 0 := fun q => x0 (ex.mp q)
        rw [if_neg nx, if_neg x0]
        have s3 : sI a b X k = 3 := by unfold sI; rw [if_neg (by omega), if_neg (by omega), if_pos t, if_neg x0]
        unfold qNe mNe
        rw [e25, hr, eo, at0 p1 e28, e28]
        by_cases r3 : r (c k) = 3
        · rw [if_pos r3, if_pos r3, mFW, mW_0]
          · exact (mB_o (by omega)).trans (zer _ g0 (by omega) (by omega))
          · rw [Int.add_assoc]; exact (mB_o (by omega)).trans (zer _ g0 (by omega) (by omega))
        · rw [if_neg r3, if_neg r3]
          have hl := (hj.1 k k0 kN t).resolve_left r3
          rw [dist p1 e25 e28 (by rw [s3]; unfold szp szf; rw [e24, if_neg (by decide), if_pos rfl, if_neg nx]) ⟨hl.1, hl.2.1⟩]
    · obtain ⟨e1, p1, e24, e25, e26, e28⟩ := one (yU (yF a b c k) 2 (c k)) 5 (c k) (b k) (by rw [yk, t]; rfl) rfl
      obtain ⟨g0, eo⟩ := off _ n0 p1 e28
      refine step e1 ?_
      have s2 : sI a b X k = 2 := by unfold sI; rw [if_neg (by omega), if_neg (by omega), if_neg (by omega), if_pos (by omega)]
      have hl := hj.2.1 k k0 kN t
      unfold qI mI
      rw [e24, if_neg (by decide), if_neg (by decide), if_neg (by decide), if_neg (by decide), if_neg (by decide), if_pos rfl, if_neg (by omega), if_neg (by omega), if_neg (by omega), if_neg (by omega), if_neg (by omega), if_neg (by omega), if_pos t, eo, eo, at0 p1 e28, e26, dist p1 e25 e28 (by rw [s2]; unfold szp szf; rw [e24]; rfl) ⟨hl.1, hl.2.1⟩]
    · obtain ⟨e1, p1, e24, e25, e26, e28⟩ := one (yU (yF a b c k) 3 (c k)) 6 (c k) 0 (by rw [yk, t]; rfl) rfl
      obtain ⟨g0, eo⟩ := off _ n0 p1 e28
      refine step e1 ?_
      have hr := h13 k k0 kN (by omega)
      have s3 : sI a b X k = 3 := by unfold sI; rw [if_neg (by omega), if_neg (by omega), if_neg (by omega), if_neg (by omega), if_pos t]
      unfold qI mI
      rw [e24, if_neg (by decide), if_neg (by decide), if_neg (by decide), if_neg (by decide), if_neg (by decide), if_neg (by decide), if_pos rfl, if_neg (by omega), if_neg (by omega), if_neg (by omega), if_neg (by omega), if_neg (by omega), if_neg (by omega), if_neg (by omega), if_pos t, eo, at0 p1 e28]
      unfold qNe mNe
      rw [e25, hr, eo, at0 p1 e28, e28]
      by_cases r3 : r (c k) = 3
      · rw [if_pos r3, if_pos r3, mFW, mW_0]
        · exact (mB_o (by omega)).trans (zer _ g0 (by omega) (by omega))
        · rw [Int.add_assoc]; exact (mB_o (by omega)).trans (zer _ g0 (by omega) (by omega))
      · rw [if_neg r3, if_neg r3]
        have hl := (hc k k0 kN t).resolve_left r3
        rw [dist p1 e25 e28 (by rw [s3]; unfold szp szf; rw [e24]; rfl) ⟨hl.1, hl.2.1⟩]
    · -- a far call: three pieces
      have yy : yF a b c (k + 1) = yP (yP (yP (yU (yF a b c k) 4 (c k)) 0 154 0) 2 (c k) 0) 3 (c k) 0 := by rw [yk, t]; rfl
      have np3 : (yF a b c (k + 1)).np = PI a b c k + 1 + 1 + 1 := by rw [yy, ← nn]; rfl
      have hr := h13 k k0 kN (by omega)
      have s5 : sI a b X k = 5 := by unfold sI; rw [if_neg (by omega), if_neg (by omega), if_neg (by omega), if_neg (by omega), if_neg (by omega), if_pos t]
      obtain ⟨x0, x1, x2, x3, x4⟩ := px.q (k := k + 1) hk n0 (by omega)
      obtain ⟨y0, y1, y2, y3, y4⟩ := px.q (k := k + 1) (q := PI a b c k + 1) hk (by omega) (by omega)
      obtain ⟨z0, z1, z2, z3, z4⟩ := px.q (k := k + 1) (q := PI a b c k + 1 + 1) hk (by omega) (by omega)
      have eg : gI a b c k = (yF a b c k).cur := by rw [gI_n, yy]; rfl
      rw [yy] at x1 x2 x3 x4 y1 y2 y3 y4 z1 z2 z3 z4
      have P0 : ∀ (h : Int → Int) (u v w : Int), zu (zu (zu h (yF a b c k).np u) ((yF a b c k).np + 1) v) ((yF a b c k).np + 1 + 1) w (PI a b c k) = u := fun h u v w => by rw [← nn, pu_ne (by omega), pu_ne (by omega), pu_eq]
      have P1 : ∀ (h : Int → Int) (u v w : Int), zu (zu (zu h (yF a b c k).np u) ((yF a b c k).np + 1) v) ((yF a b c k).np + 1 + 1) w (PI a b c k + 1) = v := fun h u v w => by rw [← nn, pu_ne (by omega), pu_eq]
      have P2 : ∀ (h : Int → Int) (u v w : Int), zu (zu (zu h (yF a b c k).np u) ((yF a b c k).np + 1) v) ((yF a b c k).np + 1 + 1) w (PI a b c k + 1 + 1) = w := fun h u v w => by rw [← nn, pu_eq]
      have x1' := x1.trans (P0 (yF a b c k).pk 0 2 3); have x2' := x2.trans (P0 (yF a b c k).pa 154 (c k) (c k)); have x4' := x4.trans (P0 (yF a b c k).ps (yF a b c k).cur (yF a b c k).cur (yF a b c k).cur)
      have y1' := y1.trans (P1 (yF a b c k).pk 0 2 3); have y2' := y2.trans (P1 (yF a b c k).pa 154 (c k) (c k)); have y3' := y3.trans (P1 (yF a b c k).pb 0 0 0); have y4' := y4.trans (P1 (yF a b c k).ps (yF a b c k).cur (yF a b c k).cur (yF a b c k).cur)
      have z1' := z1.trans (P2 (yF a b c k).pk 0 2 3); have z2' := z2.trans (P2 (yF a b c k).pa 154 (c k) (c k)); have z4' := z4.trans (P2 (yF a b c k).ps (yF a b c k).cur (yF a b c k).cur (yF a b c k).cur)
      rw [← eg] at x4' y4' z4'
      obtain ⟨g0, eo⟩ := off _ n0 x0 x4'
      obtain ⟨-, eo1⟩ := off (PI a b c k + 1) (by omega) y0 y4'
      obtain ⟨-, eo2⟩ := off (PI a b c k + 1 + 1) (by omega) z0 z4'
      have at1 : ∀ q : Int, 0 ≤ q → oP (zA γ 0 24) (zA γ 0 25) (zA γ 0 28) (zA γ 0 30) (gI a b c k) (q + 1).toNat = oP (zA γ 0 24) (zA γ 0 25) (zA γ 0 28) (zA γ 0 30) (gI a b c k) q.toNat + (if zA γ 0 28 q = gI a b c k then szf (zA γ 0 24 q) (zA γ 0 25 q) (zA γ 0 30 q) else 0) := by
        intro q q0
        rw [show (q + 1).toNat = q.toNat + 1 by omega]
        show oP (zA γ 0 24) (zA γ 0 25) (zA γ 0 28) (zA γ 0 30) (gI a b c k) q.toNat + (if zA γ 0 28 (q.toNat : Int) = gI a b c k then szf (zA γ 0 24 (q.toNat : Int)) (zA γ 0 25 (q.toNat : Int)) (zA γ 0 30 (q.toNat : Int)) else 0) = _
        rw [show ((q.toNat : Nat) : Int) = q by omega]
      have a0 := lx.2.1 (PI a b c k) n0 (by omega)
      have a1 := lx.2.1 (PI a b c k + 1) (by omega) (by omega)
      have a2 := lx.2.1 (PI a b c k + 1 + 1) (by omega) (by omega)
      rw [x4'] at a0
      rw [y4', at1 _ n0, if_pos x4', x1', ← a0, at0 x0 x4'] at a1
      rw [z4', at1 _ (by omega), if_pos y4', y1', at1 _ n0, if_pos x4', x1', ← a0, at0 x0 x4'] at a2
      have w1 : zA γ 0 29 (PI a b c k + 1) = ofS a b (gI a b c) X k + 1 := a1
      have w2 : zA γ 0 29 (PI a b c k + 1 + 1) = ofS a b (gI a b c) X k + 3 := a2.trans (by show ofS a b (gI a b c) X k + 1 + 2 = _; omega)
      rw [PI_n, np3, qK_s (by omega), qK_s (by omega), qK_s n0, ihk]
      have q0 : qI γ d (PI a b c k) = mB d (stS a b (gI a b c) X N (gI a b c k) + ofS a b (gI a b c) X k) 154 := by
        unfold qI
        rw [x1', if_pos rfl, eo, at0 x0 x4', x2']
      have q1 : ∀ e : MD, qI γ e (PI a b c k + 1) = mF (mW e (stS a b (gI a b c) X N (gI a b c k) + (ofS a b (gI a b c) X k + 1)) (b k + (if r (c k) = 2 then loS a b c (gI a b c) X N (c k) else 0))) 0 (gI a b c k) (ofS a b (gI a b c) X k + 1) (c k) := by
        intro e
        unfold qI
        rw [y1', if_neg (by decide), if_neg (by decide), if_pos rfl, eo1, w1, y2', y3', y4', hr, h12 k k0 kN t, mFW]
        by_cases r2 : r (c k) = 2
        · rw [if_pos r2, if_pos r2, px.lab lx hx (hlab k k0 kN (by omega) r2)]
        · rw [if_neg r2, if_neg r2]
      have q2 : ∀ e : MD, qI γ e (PI a b c k + 1 + 1) = mF (mW e (stS a b (gI a b c) X N (gI a b c k) + (ofS a b (gI a b c) X k + 3)) 0) 1 (gI a b c k) (ofS a b (gI a b c) X k + 3) (c k) := by
        intro e
        unfold qI
        rw [z1', if_neg (by decide), if_neg (by decide), if_neg (by decide), if_pos rfl, eo2, w2, z2', z4', mFW]
      have hM : mI a b c (gI a b c) X r N d k = mF (mOf a b c (gI a b c) X r N (mB d (stS a b (gI a b c) X N (gI a b c k) + ofS a b (gI a b c) X k) 154) k (ofS a b (gI a b c) X k + 1) (b k)) 1 (gI a b c k) (ofS a b (gI a b c) X k + 3) (c k) := by
        unfold mI
        rw [if_neg (by omega), if_neg (by omega), if_neg (by omega), if_neg (by omega), if_neg (by omega), if_neg (by omega), if_neg (by omega), if_neg (by omega), if_pos t]
      rw [q0, q1, q2, hM]
      unfold mOf
      rw [mW_0]
      · show (mW (mB d _ _) _ _).co _ = 0
        exact (mW_o (by omega) (by omega)).trans ((mB_o (by omega)).trans (zer _ g0 (by omega) (by omega)))
      · show (mW (mB d _ _) _ _).co _ = 0
        rw [Int.add_assoc]
        exact (mW_o (by omega) (by omega)).trans ((mB_o (by omega)).trans (zer _ g0 (by omega) (by omega)))
