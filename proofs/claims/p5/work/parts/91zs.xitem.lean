/-! X: the class writes an item, exactly -/
theorem oS_s {a b g X : Int → Int} {s i : Int} (h : 0 ≤ i) : oS a b g X s (i + 1).toNat = oS a b g X s i.toNat + (if g i = s then sI a b X i else 0) := by
  rw [show (i + 1).toNat = i.toNat + 1 by omega]
  show oS a b g X s i.toNat + (if g (i.toNat : Int) = s then sI a b X (i.toNat : Int) else 0) = _
  rw [show ((i.toNat : Nat) : Int) = i by omega]
theorem oS_fit {a b g X : Int → Int} {N : Nat} {i : Int} (hb : ∀ j : Nat, j < N → a j = 5 → 0 ≤ b j) (i0 : 0 ≤ i) (i1 : i < N) : 0 ≤ ofS a b g X i ∧ ofS a b g X i + sI a b X i ≤ oS a b g X (g i) N := by
  have h1 := (oS_mo (a := a) (b := b) (g := g) (X := X) (Y := X) (s := g i) (m := (i + 1).toNat) N (by omega) hb (fun _ _ q => q)).1
  have h2 := oS_s (a := a) (b := b) (g := g) (X := X) (s := g i) i0
  rw [if_pos rfl] at h2
  have h3 := oS_nn (a := a) (b := b) (g := g) (X := X) (s := g i) i.toNat (fun j hj => hb j (by omega))
  unfold ofS
  omega
/-- what stands while items are written into module m -/
def WX (a b c g r : Int → Int) (N : Nat) (m : Int) (σ : ZS) : Prop := LZ σ ∧ ZX a b c g σ ∧ Mz a b c g (xF σ) (zI σ 13 7) σ ∧ HJx a b c g r N ∧ zI σ 13 7 = N ∧ (∀ n : Int, 0 ≤ n → n < zI σ 11 5 → zA σ 11 1 n = r n) ∧ (∀ s : Int, 0 ≤ s → s < zI σ 15 4 → stS a b g (xF σ) N s + oS a b g (xF σ) s N ≤ 400) ∧ (∀ j : Int, 0 ≤ j → j < N → a j = 11 → r (c j) = 3 ∨ (0 ≤ lI a c (c j) N ∧ g (lI a c (c j) N) = g j ∧ 0 ≤ g j)) ∧ (∀ n : Int, 0 ≤ n → n < zI σ 11 5 → r n = 2 → 0 ≤ lI a c n N ∧ 0 ≤ g (lI a c n N))
def WM (a b g : Int → Int) (N : Nat) (m : Int) (σ : ZS) : Prop := zI σ m 1 = zI σ 15 4 ∧ ∀ s : Int, 0 ≤ s → s < zI σ 15 4 → zA σ m 5 s = stS a b g (xF σ) N s
theorem WX.k {a b c g r : Int → Int} {N : Nat} {m : Int} {σ τ : ZS} (h : WX a b c g r N m σ) (hm : 0 ≤ m ∧ m ≤ 2) (k : kp [m] σ τ) : WX a b c g r N m τ ∧ xF τ = xF σ := by
  obtain ⟨h1, h2, h3, h4, h5, h6, h7, h8, h9⟩ := h
  have e11 := k 11 (n_1 (by omega)); have e13 := k 13 (n_1 (by omega)); have e15 := k 15 (n_1 (by omega))
  have x : xF τ = xF σ := xF_eq (ob_A e13 1)
  refine ⟨⟨h1.kg hm k, ?_, ?_, h4, (ob_I e13 7).trans h5, ?_, ?_, h8, ?_⟩, x⟩
  · unfold ZX; rw [ob_A e13 0, ob_A e13 1, ob_A e13 2, ob_A e13 5, ob_I e13 7]; exact h2
  · rw [x]; unfold Mz; rw [ob_I e13 7, ob_A e15 3, ob_A e13 6, ob_A e11 4]; exact h3
  · rw [ob_I e11 5, ob_A e11 1]; exact h6
  · rw [ob_I e15 4, x]; exact h7
  · rw [ob_I e11 5]; exact h9
theorem WM.k {a b g : Int → Int} {N : Nat} {m : Int} {σ τ : ZS} (h : WM a b g N m σ) (hm : 0 ≤ m ∧ m ≤ 2) (k : kp [m] σ τ) (kg : Kg m σ τ) : WM a b g N m τ := by
  have e13 := k 13 (n_1 (by omega)); have e15 := k 15 (n_1 (by omega))
  have x : xF τ = xF σ := xF_eq (ob_A e13 1)
  unfold WM
  rw [kg.1.2.1, kg.2.2.2.2.1, ob_I e15 4, x]; exact h
theorem x_writeItem {a b c g r : Int → Int} {N : Nat} {m i : Int} {d : MD} {σ : ZS} {Q : ZS → Prop} (hm : 0 ≤ m ∧ m ≤ 2) (hW : WX a b c g r N m σ) (hM : WM a b g N m σ) (mo : MO σ m) (hi : 0 ≤ i ∧ i < N) (hg : 0 ≤ g i) (h2i : a i ≠ 2) (hf : 0 ≤ d.nf ∧ 2 * d.nf + sI a b (xF σ) i ≤ 400) (hc : MC (zA σ 11 0) (zA σ 11 2) σ m d) (hsh : a i = 9 → xF σ i = 0 → r (c i) ≠ 3) (hQ : ∀ τ : ZS, MO τ m → kp [m] σ τ → Kg m σ τ → MC (zA σ 11 0) (zA σ 11 2) τ m (mI a b c g (xF σ) r N d i) → Q τ) : wpX2_writeItem m i σ Q := by
  obtain ⟨h1, h2, h3, h4, h5, h6, h7, h8, h9⟩ := id hW
  have hz := h1.1.sz
  have hfw := h1.few
  have iN : i < zI σ 13 7 := by omega
  have hd := h1.2.1 i hi.1 iN
  have e5 : zA σ 13 5 i = g i := h2.2.2.1 i hi.1 iN
  have e0 : zA σ 13 0 i = a i := by rw [h2.1]
  have e2 : zA σ 13 2 i = c i := by rw [h2.2.1]
  have e6 : zA σ 13 6 i = ofS a b g (xF σ) i := h3.2.1 i hi.1 iN hg
  obtain ⟨i1, i2, i3, i4, i5, i6, i7, i8, i9, i10⟩ := h1.1.it hi.1 iN
  have hN := h1.1.2.1.1
  have fit := oS_fit (a := a) (b := b) (g := g) (X := xF σ) h4.2.2 hi.1 hi.2
  have h15 := h1.1.2.2.2.1
  have sgb : 0 ≤ g i ∧ g i < zI σ 15 4 := by omega
  have st := h7 (g i) sgb.1 sgb.2
  have st5 := hM.2 (g i) sgb.1 sgb.2
  have st0 : 0 ≤ stS a b g (xF σ) N (g i) := psum_nn _ (fun j _ _ => oS_nn N h4.2.2)
  have hs1 : 0 ≤ g i ∧ g i < zI σ m 1 := by have := hM.1; omega
  rw [e0] at i1 i6 i8 i9
  rw [e2] at i3 i6 i7
  have vv : a i ≠ 9 → zA σ 13 1 i = b i := h2.2.2.2 i hi.1 iN
  have dnf := hf
  -- bytes
  have pB : ∀ (o v : Int) (υ : ZS) (d' : MD) (R : ZS → Prop), 0 ≤ o → o < ofS a b g (xF σ) i + sI a b (xF σ) i → MO υ m → kp [m] σ υ → Kg m σ υ → MC (zA σ 11 0) (zA σ 11 2) υ m d' → (∀ τ : ZS, MO τ m → kp [m] σ τ → Kg m σ τ → MC (zA σ 11 0) (zA σ 11 2) τ m (mB d' (stS a b g (xF σ) N (g i) + o) v) → R τ) → wpX6_putByte m (g i) o v υ R := by
    intro o v υ d' R o0 o1 um uk ug uc hR
    refine x_putByte (A := stS a b g (xF σ) N (g i) + o) hm um (by rw [ug.1.2.1]; exact hs1) (by rw [ug.2.2.2.2.1, st5]) (by omega) uc (fun τ tm tk tg tc => hR τ tm (uk.tr tk) (ug.tr tg) tc)
  have pW : ∀ (o v : Int) (υ : ZS) (d' : MD) (R : ZS → Prop), 0 ≤ o → o + 1 < ofS a b g (xF σ) i + sI a b (xF σ) i → (-2147483648 ≤ v ∧ v ≤ 2147483647) → MO υ m → kp [m] σ υ → Kg m σ υ → MC (zA σ 11 0) (zA σ 11 2) υ m d' → (∀ τ : ZS, MO τ m → kp [m] σ τ → Kg m σ τ → MC (zA σ 11 0) (zA σ 11 2) τ m (mW d' (stS a b g (xF σ) N (g i) + o) v) → R τ) → wpX6_putWord m (g i) o v υ R := by
    intro o v υ d' R o0 o1 hv um uk ug uc hR
    refine x_putWord (A := stS a b g (xF σ) N (g i) + o) hm um (by rw [ug.1.2.1]; exact hs1) (by rw [ug.2.2.2.2.1, st5]) (by omega) hv uc (fun τ tm tk tg tc => hR τ tm (uk.tr tk) (ug.tr tg) tc)
  -- a fixup
  have pF : ∀ (t o : Int) (υ : ZS) (d' : MD) (R : ZS → Prop), 0 ≤ c i → (0 ≤ t ∧ t ≤ 2) → (0 ≤ o ∧ o ≤ 20010) → d'.nf < 200 → MO υ m → kp [m] σ υ → Kg m σ υ → MC (zA σ 11 0) (zA σ 11 2) υ m d' → (∀ τ : ZS, MO τ m → kp [m] σ τ → Kg m σ τ → MC (zA σ 11 0) (zA σ 11 2) τ m (mF d' t (g i) o (c i)) → R τ) → wpX2_writeFixup m i o t υ R := by
    intro t o υ d' R hn ht ho hlt um uk ug uc hR
    have k11 := uk 11 (n_1 (by omega)); have k13 := uk 13 (n_1 (by omega))
    have sg := h1.sg hn i3.2
    have nw := (h1.1.1 (c i) hn (by omega)).1
    unfold wpX2_writeFixup
    rw [ob_A k13 2, ob_A k13 5, ob_A k11 2, ob_A k11 0, e2, e5]
    exact ⟨by omega, by omega, hm, x_addFixup (nw := zA σ 11 0) (tg := zA σ 11 2) hm um ht (by omega) ho sg nw hlt uc (fun τ tm tk tg tc => hR τ tm (uk.tr tk) (ug.tr tg) tc)⟩
  -- an offset
  have pO : ∀ (o : Int) (υ : ZS) (d' : MD) (R : ZS → Prop), 0 ≤ c i → a i ≠ 9 → 0 ≤ o → o + 1 < ofS a b g (xF σ) i + sI a b (xF σ) i → d'.nf < 200 → MO υ m → kp [m] σ υ → Kg m σ υ → MC (zA σ 11 0) (zA σ 11 2) υ m d' → (∀ τ : ZS, MO τ m → kp [m] σ τ → Kg m σ τ → MC (zA σ 11 0) (zA σ 11 2) τ m (mOf a b c g (xF σ) r N d' i o (b i)) → R τ) → wpX2_writeOffset m i o υ R := by
    intro o υ d' R hn n9 o0 o1 hlt um uk ug uc hR
    have k11 := uk 11 (n_1 (by omega)); have k13 := uk 13 (n_1 (by omega))
    have rr := h6 (c i) hn i3.2
    have hr := h1.1.1 (c i) hn (by omega)
    have v9 := vv n9
    have f39 : ∀ x : Int, (0 ≤ x ∧ x ≤ 20000) → x = (if r (c i) = 2 then loS a b c g (xF σ) N (c i) else 0) → wpX2_writeOffset_39 m i o x υ R := by
      intro x hx ex
      unfold wpX2_writeOffset_39
      rw [ob_A k13 5, ob_A k13 1, e5, vv n9]
      refine ⟨by omega, hm, pW o (b i + x) υ d' _ o0 o1 (by omega) um uk ug uc (fun τ tm tk tg tc => ?_)⟩
      refine pF 0 o τ (mW d' (stS a b g (xF σ) N (g i) + o) (b i + x)) _ hn (by decide) (by omega) hlt tm tk tg tc (fun ω wm wk wg wc => hR ω wm wk wg ?_)
      unfold mOf
      rw [← ex]; exact wc
    unfold wpX2_writeOffset
    rw [ob_A k13 2, ob_A k11 1, ob_A k11 4, e2, rr]
    refine ⟨by omega, by omega, by omega, fun n2 => f39 0 (by decide) (by rw [if_neg n2]), fun y2 => f39 _ hr.2.2.2.2 ?_⟩
    rw [if_pos y2]
    have lab := h9 (c i) hn i3.2 y2
    exact (h3.2.2 (c i) (by rw [h5]; exact lab.1) (by rw [h5]; exact lab.2)).trans (by unfold loS; rw [h5]; rfl)
  -- a distance
  have pD : ∀ (υ : ZS) (R : Int → ZS → Prop), 0 ≤ c i → kp [m] σ υ → (0 ≤ lI a c (c i) N ∧ g (lI a c (c i) N) = g i ∧ 0 ≤ g i) → ((-30000 ≤ dS a b c g (xF σ) N i ∧ dS a b c g (xF σ) N i ≤ 30000) → R (dS a b c g (xF σ) N i) υ) → wpX2_distance i υ R := by
    intro υ R hn uk hl hR
    obtain ⟨⟨u1, u2, u3, u4, u5, u6, u7, u8, u9⟩, ux⟩ := hW.k hm uk
    have k13 := uk 13 (n_1 (by omega))
    refine x_distance (X := xF σ) u1.1 u2 (by rw [← ux]; exact u3) (by rw [ux]) (by omega) (by rw [u5]; exact hl) (by rw [ob_A k13 2, e2]; exact hn) ?_
    rw [u5]
    exact hR
  -- a near address
  have pN : ∀ (υ : ZS) (d' : MD) (R : ZS → Prop), 0 ≤ c i → (r (c i) = 3 ∨ (0 ≤ lI a c (c i) N ∧ g (lI a c (c i) N) = g i ∧ 0 ≤ g i)) → sI a b (xF σ) i = 3 → d'.nf < 200 → MO υ m → kp [m] σ υ → Kg m σ υ → MC (zA σ 11 0) (zA σ 11 2) υ m d' → (∀ τ : ZS, MO τ m → kp [m] σ τ → Kg m σ τ → MC (zA σ 11 0) (zA σ 11 2) τ m (mNe a b c g (xF σ) r N d' i) → R τ) → wpX2_writeNear m i υ R := by
    intro υ d' R hn hl s3 hlt um uk ug uc hR
    obtain ⟨⟨u1, u2, u3, u4, u5, u6, u7, u8, u9⟩, ux⟩ := hW.k hm uk
    have k11 := uk 11 (n_1 (by omega)); have k13 := uk 13 (n_1 (by omega))
    have rr := h6 (c i) hn i3.2
    unfold wpX2_writeNear wpX2_writeNear_50
    refine ⟨by omega, x_isExtern u1.1 (by omega) (by rw [ob_A k13 2, e2]; exact hn) (fun x3 => ⟨by decide, fun q => absurd q (by decide), fun _ => ?_⟩) (fun x3 => ⟨by decide, fun _ => ?_, fun q => absurd rfl q⟩)⟩
    · rw [ob_A k11 1, ob_A k13 2, e2, rr] at x3
      rw [ob_A k13 6, e6]
      refine pF 2 _ υ d' R hn (by decide) (by omega) hlt um uk ug uc (fun τ tm tk tg tc => hR τ tm tk tg ?_)
      unfold mNe
      rw [if_pos x3]; exact tc
    · rw [ob_A k11 1, ob_A k13 2, e2, rr] at x3
      refine pD υ _ hn uk (hl.resolve_left x3) (fun db => ⟨hm, ?_⟩)
      rw [ob_A k13 6, ob_A k13 5, e6, e5]
      refine pW _ _ υ d' R (by omega) (by omega) (by omega) um uk ug uc (fun τ tm tk tg tc => hR τ tm tk tg ?_)
      unfold mNe
      rw [if_neg x3]; exact tc
  have ng : ¬ g i < 0 := by omega
  unfold wpX2_writeItem wpX2_writeItem_227
  rw [e0, e5, e6]
  unfold mI at hQ
  rw [if_neg ng] at hQ
  refine ⟨by omega, by omega, fun t => ?_, fun n4 => ⟨fun t => ?_, fun n5 => ⟨fun t => ?_, fun n6 => ?_⟩⟩⟩
  · rw [if_pos t] at hQ
    have s1 : sI a b (xF σ) i = 1 := by unfold sI; rw [if_pos t]
    rw [vv (by omega)]
    exact ⟨hm, pB _ _ σ d _ fit.1 (by omega) mo kp.rf Kg.rf hc hQ⟩
  · rw [if_neg n4, if_neg (by omega), if_neg (by omega), if_neg (by omega), if_neg (by omega), if_neg (by omega), if_neg (by omega), if_neg (by omega)] at hQ
    exact hQ σ mo kp.rf Kg.rf hc
  · rw [if_neg n4, if_pos t] at hQ
    have s1 : sI a b (xF σ) i = 2 := by unfold sI; rw [if_neg n4, if_neg n5, if_neg (by omega), if_pos (by omega)]
    have v9 := vv (by omega)
    rw [vv (by omega)]
    exact ⟨hm, pW _ _ σ d _ fit.1 (by omega) (by omega) mo kp.rf Kg.rf hc hQ⟩
  have hn := i6 n4 n5 n6
  rw [if_neg n4, if_neg n6] at hQ
  refine ⟨fun t => ?_, fun n7 => ⟨fun t => ?_, fun n8 => ⟨fun t => ?_, fun n9 => ⟨fun t => ?_, fun n10 => ⟨fun t => ?_, fun n11 => ⟨fun t => ?_, fun n12 => ?_⟩⟩⟩⟩⟩⟩
  · rw [if_pos t] at hQ
    have s1 : sI a b (xF σ) i = 2 := by unfold sI; rw [if_neg n4, if_neg n5, if_neg (by omega), if_pos (by omega)]
    exact pO _ σ d _ hn (by omega) fit.1 (by omega) (by omega) mo kp.rf Kg.rf hc hQ
  · rw [if_neg n7, if_pos t] at hQ
    have s1 : sI a b (xF σ) i = 2 := by unfold sI; rw [if_neg n4, if_neg n5, if_neg (by omega), if_pos (by omega)]
    exact pF 1 _ σ d _ hn (by decide) (by omega) (by omega) mo kp.rf Kg.rf hc hQ
  · rw [if_neg n7, if_neg n8, if_pos t] at hQ
    unfold wpX2_writeJump wpX2_writeJump_77
    have v9 := i9 t
    rw [e5, e6]
    refine ⟨by omega, by omega, fun n3 => ⟨hm, ?_⟩, fun y3 => ⟨hm, ?_⟩⟩
    · have x0 : xF σ i = 0 := by unfold xF; rw [if_pos (by omega)]
      have s2 : sI a b (xF σ) i = 2 := by unfold sI; rw [if_neg n4, if_neg n5, if_pos t, if_pos x0]
      rw [if_pos x0] at hQ
      have hl : 0 ≤ lI a c (c i) N ∧ g (lI a c (c i) N) = g i ∧ 0 ≤ g i := (h4.1 i hi.1 hi.2 t).resolve_left (hsh t x0)
      refine pB _ _ σ d _ fit.1 (by omega) mo kp.rf Kg.rf hc (fun τ tm tk tg tc => pD τ _ hn tk hl (fun db => ?_))
      exact pB _ _ τ _ _ (by omega) (by omega) tm tk tg tc hQ
    · have x0 : ¬ xF σ i = 0 := by unfold xF; rw [if_neg (by omega)]; decide
      have s3 : sI a b (xF σ) i = 3 := by unfold sI; rw [if_neg n4, if_neg n5, if_pos t, if_neg x0]
      rw [if_neg x0] at hQ
      exact pB _ _ σ d _ fit.1 (by omega) mo kp.rf Kg.rf hc (fun τ tm tk tg tc => pN τ (mB d (stS a b g (xF σ) N (g i) + ofS a b g (xF σ) i) 233) _ hn (h4.1 i hi.1 hi.2 t) s3 (by show d.nf < 200; omega) tm tk tg tc hQ)
  · rw [if_neg n7, if_neg n8, if_neg n9, if_pos t] at hQ
    have s2 : sI a b (xF σ) i = 2 := by unfold sI; rw [if_neg n4, if_neg n5, if_neg n9, if_pos (by omega)]
    rw [vv n9]
    refine ⟨hm, pB _ _ σ d _ fit.1 (by omega) mo kp.rf Kg.rf hc (fun τ tm tk tg tc => pD τ _ hn tk (h4.2.1 i hi.1 hi.2 t) (fun db => ?_))⟩
    exact pB _ _ τ _ _ (by omega) (by omega) tm tk tg tc hQ
  · rw [if_neg n7, if_neg n8, if_neg n9, if_neg n10, if_pos t] at hQ
    have s3 : sI a b (xF σ) i = 3 := by unfold sI; rw [if_neg n4, if_neg n5, if_neg n9, if_neg (by omega), if_pos t]
    exact ⟨hm, pB _ _ σ d _ fit.1 (by omega) mo kp.rf Kg.rf hc (fun τ tm tk tg tc => pN τ (mB d (stS a b g (xF σ) N (g i) + ofS a b g (xF σ) i) 232) _ hn (h8 i hi.1 hi.2 t) s3 (by show d.nf < 200; omega) tm tk tg tc hQ)⟩
  · rw [if_neg n7, if_neg n8, if_neg n9, if_neg n10, if_neg n11, if_pos t] at hQ
    have s5 : sI a b (xF σ) i = 5 := by unfold sI; rw [if_neg n4, if_neg n5, if_neg n9, if_neg (by omega), if_neg n11, if_pos t]
    refine ⟨hm, pB _ _ σ d _ fit.1 (by omega) mo kp.rf Kg.rf hc (fun τ tm tk tg tc => ?_)⟩
    refine pO _ τ (mB d (stS a b g (xF σ) N (g i) + ofS a b g (xF σ) i) 154) _ hn n9 (by omega) (by omega) (by show d.nf < 200; omega) tm tk tg tc (fun υ um uk ug uc => ?_)
    exact pF 1 _ υ (mOf a b c g (xF σ) r N (mB d (stS a b g (xF σ) N (g i) + ofS a b g (xF σ) i) 154) i (ofS a b g (xF σ) i + 1) (b i)) _ hn (by decide) (by omega) (by show d.nf + 1 < 200; omega) um uk ug uc hQ
  · rw [if_neg n7, if_neg n8, if_neg n9, if_neg n10, if_neg n11, if_neg n12] at hQ
    exact hQ σ mo kp.rf Kg.rf hc
