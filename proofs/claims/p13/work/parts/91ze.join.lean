/-! X: names declared by the class, exactly -/
theorem x_blame {p : Int} {σ : ZS} {R Q : ZS → Prop} (hp : 0 ≤ p) (g : wpX2_blame p σ R) (hQ : ∀ τ : ZS, R τ → 0 ≤ zI τ 15 5 → kp [15] σ τ → zI τ 15 4 = zI σ 15 4 → zA τ 15 2 = zA σ 15 2 → Q τ) : wpX2_blame p σ Q := by
  have hp' : 0 ≤ zI (zsI σ 15 5 p) 15 5 := hp
  unfold wpX2_blame wpX2_blame_15 wpX2_blame_20 at g ⊢
  exact ⟨g.1, fun q => hQ _ (g.2.1 q) hp' (kp.i (by decide)) rfl rfl, fun q => ⟨(g.2.2 q).1, fun q' => hQ _ ((g.2.2 q).2.1 q') (by omega) kp.rf rfl rfl, fun q' => hQ _ ((g.2.2 q).2.2 q') hp' (kp.i (by decide)) rfl rfl⟩⟩
theorem x_mayDeclare {i : Int} {σ : ZS} {R Q : Int → ZS → Prop} (g : wpX2_mayDeclare i σ R) (hp : 0 ≤ zA σ 13 3 i) (hc : zA σ 13 3 i ≠ zI σ 11 6) (h1 : R 1 σ → zA σ 11 1 (zA σ 13 2 i) = 0 → Q 1 σ) (h0 : zA σ 11 1 (zA σ 13 2 i) ≠ 0 → ∀ τ : ZS, R 0 τ → 0 ≤ zI τ 15 5 → kp [15] σ τ → zI τ 15 4 = zI σ 15 4 → zA τ 15 2 = zA σ 15 2 → Q 0 τ) : wpX2_mayDeclare i σ Q := by
  unfold wpX2_mayDeclare wpX2_mayDeclare_43 at g ⊢
  obtain ⟨g1, g2, g3, g4, g5⟩ := g
  exact ⟨g1, g2, g3, fun n => x_blame hp (g4 n) (h0 n), fun e => ⟨(g5 e).1, (g5 e).2.1, fun q => absurd q hc, fun q => h1 ((g5 e).2.2.2 q) e⟩⟩
def xSg (σ τ : ZS) (n a c x : Int) : Prop := ((1 < zA σ 11 1 n ∨ (zA σ 11 1 n = 1 ∧ zA σ 11 3 n ≠ a)) ∧ x = c ∧ 0 ≤ zI τ 15 5 ∧ ob τ 11 = ob σ 11 ∧ zI τ 15 4 = zI σ 15 4 ∧ zA τ 15 2 = zA σ 15 2) ∨ (zA σ 11 1 n = 0 ∧ x = zI σ 15 4 ∧ zA τ 11 1 = zu (zA σ 11 1) n 1 ∧ zA τ 11 2 = zu (zA σ 11 2) n (zI σ 15 4) ∧ zA τ 11 3 = zu (zA σ 11 3) n a ∧ zI τ 11 5 = zI σ 11 5 ∧ zI τ 11 6 = zI σ 11 6 ∧ zA τ 15 2 = zu (zA σ 15 2) (zI σ 15 4) n ∧ zI τ 15 4 = zI σ 15 4 + 1 ∧ zI τ 15 5 = zI σ 15 5) ∨ (zA σ 11 1 n = 1 ∧ zA σ 11 3 n = a ∧ τ = σ ∧ x = zA σ 11 2 n)
theorem x_openSegment {σ : ZS} {i c : Int} {Q : Int → ZS → Prop} (h : LY σ) (hi : 0 ≤ i ∧ i < zI σ 13 7) (ht : zA σ 13 0 i = 0) (hc : CU σ c i) (h6 : zI σ 11 6 = -1) (h60 : zI σ 15 4 < 60) (hQ : ∀ (x : Int) (τ : ZS), LY τ → CU τ x (i + 1) → ob τ 13 = ob σ 13 → kp [11, 15] σ τ → zI σ 15 4 ≤ zI τ 15 4 → xSg σ τ (zA σ 13 2 i) (zA σ 13 1 i) c x → zA τ 11 0 = zA σ 11 0 → Q x τ) : wpX2_openSegment i c σ Q := by
  have hit := h.it hi.1 hi.2
  obtain ⟨i1, i2, i3, i4, i5, i6, i7, i8, i9, i10⟩ := hit
  have hn : 0 ≤ zA σ 13 2 i := i6 (by omega) (by omega) (by omega)
  have hp := i7 hn
  have hN := h.2.1.1
  have hr := (h.1 (zA σ 13 2 i) hn (by omega)).2.1
  have g := c_openSegment (Q := fun x τ => LY τ ∧ CU τ x (i + 1) ∧ ob τ 13 = ob σ 13 ∧ kp [11, 15] σ τ ∧ zI σ 15 4 ≤ zI τ 15 4) h hi ht hc (fun x τ a b c d e => ⟨a, b, c, d, e⟩)
  have f58 : ¬ (zA σ 11 1 (zA σ 13 2 i) = 1 ∧ zA σ 11 3 (zA σ 13 2 i) = zA σ 13 1 i) → wpX2_openSegment_58 i c (zA σ 13 2 i) (zA σ 13 1 i) σ (fun x τ => LY τ ∧ CU τ x (i + 1) ∧ ob τ 13 = ob σ 13 ∧ kp [11, 15] σ τ ∧ zI σ 15 4 ≤ zI τ 15 4) → wpX2_openSegment_58 i c (zA σ 13 2 i) (zA σ 13 1 i) σ Q := by
    intro hne k
    unfold wpX2_openSegment_58 wpX2_openSegment_75 wpX5_make at k ⊢
    refine x_mayDeclare k hp (by omega) (fun r r0 => ?_) (fun nr τ r w kk e4 e2 => ?_)
    · have n1 : ¬ (1 : Int) = 0 := by decide
      refine ⟨by decide, fun q => absurd q n1, fun _ => ⟨(r.2.2 n1).1, fun lt => ?_, fun ge => absurd h60 ge⟩⟩
      obtain ⟨r1, r2, r3, r4, r5, r6, r7, r8⟩ := (r.2.2 n1).2.1 lt
      refine ⟨r1, r2, r3, hQ _ _ r4 r5 r6 r7 r8 (Or.inr (Or.inl ⟨r0, ?_, rfl, rfl, rfl, rfl, rfl, rfl, rfl, rfl⟩)) rfl⟩
      show zI σ 15 4 + 1 - 1 = zI σ 15 4
      omega
    · obtain ⟨r1, r2, r3, r4, r5⟩ := r.2.1 rfl
      refine ⟨by decide, fun _ => hQ c τ r1 r2 r3 r4 r5 (Or.inl ⟨?_, rfl, w, kk 11 (by decide), e4, e2⟩) (ob_A (kk 11 (by decide)) 0), fun q => absurd rfl q⟩
      by_cases z : zA σ 11 1 (zA σ 13 2 i) = 1
      · exact Or.inr ⟨z, fun y => hne ⟨z, y⟩⟩
      · exact Or.inl (by omega)
  unfold wpX2_openSegment at g ⊢
  obtain ⟨g1, g2, g3, g4, g5⟩ := g
  refine ⟨g1, g2, g3, fun n => f58 (fun q => n q.1) (g4 n), fun e => ⟨(g5 e).1, (g5 e).2.1, fun n => f58 (fun q => n q.2) ((g5 e).2.2.1 n), fun y => ?_⟩⟩
  obtain ⟨r1, r2, r3, r4, r5⟩ := (g5 e).2.2.2 y
  exact hQ _ σ r1 r2 r3 r4 r5 (Or.inr (Or.inr ⟨e, y, rfl, rfl⟩)) rfl
def xDc (σ τ : ZS) (n r c : Int) : Prop := zI τ 15 4 = zI σ 15 4 ∧ zA τ 15 2 = zA σ 15 2 ∧ ((zA σ 11 1 n = 0 ∧ zA τ 11 1 = zu (zA σ 11 1) n r ∧ zA τ 11 2 = zu (zA σ 11 2) n c ∧ zA τ 11 3 = zA σ 11 3 ∧ zI τ 11 5 = zI σ 11 5 ∧ zI τ 11 6 = zI σ 11 6 ∧ zI τ 15 5 = zI σ 15 5) ∨ (zA σ 11 1 n ≠ 0 ∧ 0 ≤ zI τ 15 5 ∧ ob τ 11 = ob σ 11))
theorem x_declare {σ : ZS} {i r c : Int} {Q : ZS → Prop} (h : LY σ) (hi : 0 ≤ i ∧ i < zI σ 13 7) (hn : 0 ≤ zA σ 13 2 i) (hr : (r = 2 ∧ (-1 ≤ c ∧ c < zI σ 15 4) ∧ (zI σ 15 5 < 0 → 0 ≤ c)) ∨ (r = 3 ∧ c = -1)) (h6 : zI σ 11 6 = -1) (hQ : ∀ τ : ZS, LY τ → ob τ 13 = ob σ 13 → kp [11, 15] σ τ → zI τ 15 4 = zI σ 15 4 → (zI τ 15 5 < 0 → zI σ 15 5 < 0) → xDc σ τ (zA σ 13 2 i) r c → zA τ 11 0 = zA σ 11 0 → Q τ) : wpX2_declare i r c σ Q := by
  have hit := h.it hi.1 hi.2
  obtain ⟨i1, i2, i3, i4, i5, i6, i7, i8, i9, i10⟩ := hit
  have hp := i7 hn
  have g := c_declare (Q := fun τ => LY τ ∧ ob τ 13 = ob σ 13 ∧ kp [11, 15] σ τ ∧ zI τ 15 4 = zI σ 15 4 ∧ (zI τ 15 5 < 0 → zI σ 15 5 < 0)) h hi hn hr (fun τ a b c d e => ⟨a, b, c, d, e⟩)
  unfold wpX2_declare wpX2_declare_26 wpX5_make at g ⊢
  refine x_mayDeclare g hp (by omega) (fun r r0 => ?_) (fun nr τ r w kk e4 e2 => ?_)
  · have n1 : ¬ (1 : Int) = 0 := by decide
    obtain ⟨r1, r2, r3, r4, r5, r6, r7⟩ := r.2.2 n1
    exact ⟨by decide, fun q => absurd q n1, fun _ => ⟨r1, r2, hQ _ r3 r4 r5 r6 r7 ⟨rfl, rfl, Or.inl ⟨r0, rfl, rfl, rfl, rfl, rfl, rfl⟩⟩ rfl⟩⟩
  · obtain ⟨r1, r2, r3, r4, r5⟩ := r.2.1 rfl
    exact ⟨by decide, fun _ => hQ τ r1 r2 r3 r4 r5 ⟨e4, e2, Or.inr ⟨nr, w, kk 11 (by decide)⟩⟩ (ob_A (kk 11 (by decide)) 0), fun q => absurd rfl q⟩
/-- what the class has declared is what the walk has -/
def DXd (τ : ZS) (d : YD) (c : Int) : Prop := (∀ n : Int, 0 ≤ n → n < zI τ 11 5 → zA τ 11 1 n = d.so n ∧ (d.so n = 1 ∨ d.so n = 2 → zA τ 11 2 n = d.sg n) ∧ (d.so n = 1 → zA τ 11 3 n = d.al n)) ∧ zI τ 15 4 = d.ns ∧ (∀ s : Int, 0 ≤ s → s < d.ns → zA τ 15 2 s = d.sn s) ∧ c = d.cur ∧ (zI τ 15 5 < 0 ↔ ¬ d.bad)
theorem DXd.seg {σ τ : ZS} {d : YD} {n a c x : Int} (h : DXd σ d c) (hn : 0 ≤ n ∧ n < zI σ 11 5) (hx : xSg σ τ n a c x) : DXd τ (ySeg d n a) x := by
  have h0 := h
  obtain ⟨hN, h4, h2, hc, h5⟩ := h
  have nn := hN n hn.1 hn.2
  rw [ySeg_eq]
  rcases hx with ⟨x1, x2, x3, x4, x5, x6⟩ | ⟨x0, x1, x2, x3, x4, x5, x6, x7, x8, x9⟩ | ⟨x1, x2, x3, x4⟩
  · rw [if_pos (by
      rcases x1 with y | ⟨y, z⟩
      · exact Or.inl (by rw [← nn.1]; exact y)
      · have e : d.so n = 1 := by rw [← nn.1]; exact y
        exact Or.inr ⟨e, fun q => z (by rw [nn.2.2 e]; exact q)⟩)]
    refine ⟨by rw [ob_I x4 5, ob_A x4 1, ob_A x4 2, ob_A x4 3]; exact hN, x5.trans h4, by rw [x6]; exact h2, x2.trans hc, ?_⟩
    show zI τ 15 5 < 0 ↔ ¬ True
    exact ⟨fun q => by omega, fun q => absurd trivial q⟩
  · have e0 : d.so n = 0 := by rw [← nn.1]; exact x0
    rw [if_neg (by rw [e0]; omega), if_pos e0]
    refine ⟨fun k k0 k1 => ?_, ?_, fun s s0 s1 => ?_, ?_, ?_⟩
    · rw [x5] at k1
      show zA τ 11 1 k = zu d.so n 1 k ∧ (zu d.so n 1 k = 1 ∨ zu d.so n 1 k = 2 → zA τ 11 2 k = zu d.sg n d.ns k) ∧ (zu d.so n 1 k = 1 → zA τ 11 3 k = zu d.al n a k)
      rw [x2, x3, x4]
      by_cases e : k = n
      · rw [e, pu_eq, pu_eq, pu_eq, pu_eq, pu_eq, pu_eq]
        exact ⟨rfl, fun _ => h4, fun _ => rfl⟩
      · rw [pu_ne e, pu_ne e, pu_ne e, pu_ne e, pu_ne e, pu_ne e]; exact hN k k0 k1
    · show zI τ 15 4 = d.ns + 1
      rw [x8, h4]
    · have s1' : s < d.ns + 1 := s1
      show zA τ 15 2 s = zu d.sn d.ns n s
      rw [x7, h4]
      by_cases e : s = d.ns
      · rw [e, pu_eq, pu_eq]
      · rw [pu_ne e, pu_ne e]; exact h2 s s0 (by omega)
    · show x = d.ns
      rw [x1, h4]
    · rw [x9]; exact h5
  · have e1 : d.so n = 1 := by rw [← nn.1]; exact x1
    rw [if_neg (by
      rintro (q | ⟨-, q⟩)
      · omega
      · exact q (by rw [← nn.2.2 e1]; exact x2)), if_neg (by omega)]
    rw [x3]
    refine ⟨hN, h4, h2, ?_, h5⟩
    show x = d.sg n
    rw [x4, nn.2.1 (Or.inl e1)]
theorem DXd.bd {σ τ : ZS} {d : YD} {c : Int} (h : DXd σ d c) (e : ob τ 11 = ob σ 11) (e4 : zI τ 15 4 = zI σ 15 4) (e2 : zA τ 15 2 = zA σ 15 2) (w : 0 ≤ zI τ 15 5) : DXd τ (yB d) c := by
  obtain ⟨hN, h4, h2, hc, h5⟩ := h
  refine ⟨by rw [ob_I e 5, ob_A e 1, ob_A e 2, ob_A e 3]; exact hN, e4.trans h4, by rw [e2]; exact h2, hc, ?_⟩
  show zI τ 15 5 < 0 ↔ ¬ True
  exact ⟨fun q => by omega, fun q => absurd trivial q⟩
theorem DXd.lab {σ τ : ZS} {d : YD} {n c : Int} (h : DXd σ d c) (hn : 0 ≤ n ∧ n < zI σ 11 5) (hx : xDc σ τ n 2 c) : DXd τ (yLab d n) c := by
  have h0 := h
  obtain ⟨hN, h4, h2, hc, h5⟩ := h
  have nn := hN n hn.1 hn.2
  obtain ⟨x4, x2, hx⟩ := hx
  rw [yLab_eq]
  rcases hx with ⟨y0, y1, y2, y3, y5, y6, y7⟩ | ⟨y0, y1, y2⟩
  · have e0 : d.so n = 0 := by rw [← nn.1]; exact y0
    rw [if_pos e0]
    refine ⟨fun k k0 k1 => ?_, x4.trans h4, by rw [x2]; exact h2, hc, by rw [y7]; exact h5⟩
    rw [y5] at k1
    show zA τ 11 1 k = zu d.so n 2 k ∧ (zu d.so n 2 k = 1 ∨ zu d.so n 2 k = 2 → zA τ 11 2 k = zu d.sg n d.cur k) ∧ (zu d.so n 2 k = 1 → zA τ 11 3 k = d.al k)
    rw [y1, y2, y3]
    by_cases e : k = n
    · rw [e, pu_eq, pu_eq, pu_eq, pu_eq]; exact ⟨rfl, fun _ => hc, fun q => absurd q (by decide)⟩
    · rw [pu_ne e, pu_ne e, pu_ne e, pu_ne e]; exact hN k k0 k1
  · rw [if_neg (by rw [← nn.1]; exact y0)]
    exact h0.bd y2 x4 x2 y1
theorem DXd.ext {σ τ : ZS} {d : YD} {n c : Int} (h : DXd σ d c) (hn : 0 ≤ n ∧ n < zI σ 11 5) (hx : xDc σ τ n 3 (-1)) : DXd τ (yExt d n) c := by
  have h0 := h
  obtain ⟨hN, h4, h2, hc, h5⟩ := h
  have nn := hN n hn.1 hn.2
  obtain ⟨x4, x2, hx⟩ := hx
  rw [yExt_eq]
  rcases hx with ⟨y0, y1, y2, y3, y5, y6, y7⟩ | ⟨y0, y1, y2⟩
  · have e0 : d.so n = 0 := by rw [← nn.1]; exact y0
    rw [if_pos e0]
    refine ⟨fun k k0 k1 => ?_, x4.trans h4, by rw [x2]; exact h2, hc, by rw [y7]; exact h5⟩
    rw [y5] at k1
    show zA τ 11 1 k = zu d.so n 3 k ∧ (zu d.so n 3 k = 1 ∨ zu d.so n 3 k = 2 → zA τ 11 2 k = d.sg k) ∧ (zu d.so n 3 k = 1 → zA τ 11 3 k = d.al k)
    rw [y1, y2, y3]
    by_cases e : k = n
    · rw [e, pu_eq, pu_eq, pu_eq]; exact ⟨rfl, fun q => by omega, fun q => absurd q (by decide)⟩
    · rw [pu_ne e, pu_ne e, pu_ne e]; exact hN k k0 k1
  · rw [if_neg (by rw [← nn.1]; exact y0)]
    exact h0.bd y2 x4 x2 y1
/-- which use an item is -/
def iK (t : Int) : Int := if t = 2 then 0 else if t = 7 ∨ t = 8 then 1 else if t = 9 ∨ t = 11 then 3 else if t = 10 then 2 else if t = 12 then 4 else -1
theorem yI_o {d : YD} {t v n : Int} (h0 : 0 ≤ t) (h1 : t ≤ 12) (n0 : t ≠ 0) (n1 : t ≠ 1) (n3 : t ≠ 3) : (yI d t v n).1 = d.1 ∧ (yI d t v n).2.1 = d.2.1 ∧ (yI d t v n).2.2.1 = d.2.2.1 := by
  have hc : t = 2 ∨ t = 4 ∨ t = 5 ∨ t = 6 ∨ t = 7 ∨ t = 8 ∨ t = 9 ∨ t = 10 ∨ t = 11 ∨ t = 12 := by omega
  rcases hc with rfl | rfl | rfl | rfl | rfl | rfl | rfl | rfl | rfl | rfl <;> exact ⟨rfl, rfl, rfl⟩
theorem DXd.w {τ : ZS} {d e : YD} {c : Int} (h : DXd τ d c) (k1 : e.1 = d.1) (k2 : e.2.1 = d.2.1) (k3 : e.2.2.1 = d.2.2.1) : DXd τ e c := by
  unfold DXd YD.so YD.sg YD.al YD.sn YD.ns YD.cur YD.bad at h ⊢
  rw [k1, k2, k3]; exact h
theorem yLab_u (d : YD) (n : Int) : (yLab d n).u = d.u ∧ (yLab d n).cur = d.cur := by
  rw [yLab_eq]
  split <;> exact ⟨rfl, rfl⟩
theorem yExt_u (d : YD) (n : Int) : (yExt d n).u = d.u ∧ (yExt d n).cur = d.cur := by
  rw [yExt_eq]
  split <;> exact ⟨rfl, rfl⟩
theorem ySeg_u (d : YD) (n a : Int) : (ySeg d n a).u = d.u := by
  rw [ySeg_eq]
  split
  · rfl
  · split <;> rfl
theorem yI_u {d : YD} {t v n : Int} (h0 : 0 ≤ t) (h1 : t ≤ 12) : (iK t < 0 → (yI d t v n).u = d.u) ∧ (0 ≤ iK t → (yI d t v n).u = uA d.u d.cur (iK t) n) ∧ (t ≠ 0 → (yI d t v n).cur = d.cur) := by
  have hc : t = 0 ∨ t = 1 ∨ t = 3 ∨ t = 2 ∨ t = 4 ∨ t = 5 ∨ t = 6 ∨ t = 7 ∨ t = 8 ∨ t = 9 ∨ t = 10 ∨ t = 11 ∨ t = 12 := by omega
  rcases hc with rfl | rfl | rfl | rfl | rfl | rfl | rfl | rfl | rfl | rfl | rfl | rfl | rfl
  · exact ⟨fun _ => ySeg_u d n v, fun q => absurd q (by decide), fun q => absurd rfl q⟩
  · exact ⟨fun _ => (yLab_u d n).1, fun q => absurd q (by decide), fun _ => (yLab_u d n).2⟩
  · exact ⟨fun _ => (yExt_u d n).1, fun q => absurd q (by decide), fun _ => (yExt_u d n).2⟩
  all_goals exact ⟨fun q => by first | rfl | exact absurd q (by decide), fun q => by first | rfl | exact absurd q (by decide), fun _ => rfl⟩
/-- a use that is right -/
def uOK (D : YD) (k n s : Int) : Prop := (k = 0 → D.so n = 2) ∧ (k = 1 → D.so n ≠ 0) ∧ (k = 2 → D.so n = 2 ∧ D.sg n = s) ∧ (k = 3 → (D.so n = 2 ∧ D.sg n = s) ∨ D.so n = 3) ∧ (k = 4 → 1 < D.so n)
theorem uOK_n (D : YD) {k n s : Int} (h : k < 0) : uOK D k n s := ⟨fun q => by omega, fun q => by omega, fun q => by omega, fun q => by omega, fun q => by omega⟩
theorem yF_ok {a b c : Int → Int} (D : YD) : ∀ k : Nat, (∀ j : Nat, j < k → 0 ≤ a j ∧ a j ≤ 12) → 0 ≤ (yF a b c k).u.nu ∧ ((∀ u : Int, 0 ≤ u → u < (yF a b c k).u.nu → uOK D ((yF a b c k).u.uk u) ((yF a b c k).u.un u) ((yF a b c k).u.us u)) ↔ (∀ j : Nat, j < k → uOK D (iK (a j)) (c j) (yF a b c (j + 1)).cur))
  | 0, _ => ⟨Int.le_refl 0, fun _ j hj => absurd hj (Nat.not_lt_zero j), fun _ u u0 u1 => by have u1' : u < 0 := u1; omega⟩
  | k + 1, ht => by
    obtain ⟨n0, ih⟩ := yF_ok D k (fun j hj => ht j (by omega))
    have hk := ht k (by omega)
    have e : yF a b c (k + 1) = yI (yF a b c k) (a k) (b k) (c k) := rfl
    have y := yI_u (d := yF a b c k) (t := a k) (v := b k) (n := c k) hk.1 hk.2
    by_cases q : iK (a k) < 0
    · have eu := y.1 q
      rw [← e] at eu
      rw [eu]
      refine ⟨n0, ih.trans ⟨fun hh j hj => ?_, fun hh j hj => hh j (by omega)⟩⟩
      by_cases ej : j = k
      · rw [ej]; exact uOK_n D q
      · exact hh j (by omega)
    · have eu := y.2.1 (by omega)
      have ec : (yF a b c (k + 1)).cur = (yF a b c k).cur := y.2.2 (fun z => q (by rw [z]; decide))
      rw [← e] at eu
      rw [eu]
      refine ⟨by show 0 ≤ (yF a b c k).u.nu + 1; omega, ⟨fun hh j hj => ?_, fun hh u u0 u1 => ?_⟩⟩
      · by_cases ej : j = k
        · have := hh (yF a b c k).u.nu n0 (show _ < (yF a b c k).u.nu + 1 by omega)
          have h2 : uOK D (zu (yF a b c k).u.uk (yF a b c k).u.nu (iK (a k)) (yF a b c k).u.nu) (zu (yF a b c k).u.un (yF a b c k).u.nu (c k) (yF a b c k).u.nu) (zu (yF a b c k).u.us (yF a b c k).u.nu (yF a b c k).cur (yF a b c k).u.nu) := this
          rw [pu_eq, pu_eq, pu_eq] at h2
          rw [ej, ec]; exact h2
        · refine ih.mp (fun u u0 u1 => ?_) j (by omega)
          have := hh u u0 (show u < (yF a b c k).u.nu + 1 by omega)
          have h2 : uOK D (zu (yF a b c k).u.uk (yF a b c k).u.nu (iK (a k)) u) (zu (yF a b c k).u.un (yF a b c k).u.nu (c k) u) (zu (yF a b c k).u.us (yF a b c k).u.nu (yF a b c k).cur u) := this
          rw [pu_ne (by omega), pu_ne (by omega), pu_ne (by omega)] at h2
          exact h2
      · have u1' : u < (yF a b c k).u.nu + 1 := u1
        show uOK D (zu (yF a b c k).u.uk (yF a b c k).u.nu (iK (a k)) u) (zu (yF a b c k).u.un (yF a b c k).u.nu (c k) u) (zu (yF a b c k).u.us (yF a b c k).u.nu (yF a b c k).cur u)
        by_cases ej : u = (yF a b c k).u.nu
        · rw [ej, pu_eq, pu_eq, pu_eq, ← ec]; exact hh k (by omega)
        · rw [pu_ne ej, pu_ne ej, pu_ne ej]
          exact ih.mpr (fun j hj => hh j (by omega)) u u0 (by omega)
/-! X: the class's first wrong name, exactly -/
/-- the class's items, walked up to k -/
def yK (σ : ZS) (k : Int) : YD := yF (zA σ 13 0) (zA σ 13 1) (zA σ 13 2) k.toNat
theorem yK_s {σ : ZS} {k : Int} (h : 0 ≤ k) : yK σ (k + 1) = yI (yK σ k) (zA σ 13 0 k) (zA σ 13 1 k) (zA σ 13 2 k) := by
  unfold yK
  rw [show (k + 1).toNat = k.toNat + 1 by omega]
  show yI _ (zA σ 13 0 (k.toNat : Int)) (zA σ 13 1 (k.toNat : Int)) (zA σ 13 2 (k.toNat : Int)) = _
  rw [show ((k.toNat : Nat) : Int) = k by omega]
theorem yK.k {σ τ : ZS} {k : Int} (e0 : zA τ 13 0 = zA σ 13 0) (e1 : zA τ 13 1 = zA σ 13 1) (e2 : zA τ 13 2 = zA σ 13 2) : yK τ k = yK σ k := by
  unfold yK; rw [e0, e1, e2]
/-- items' segments -/
def DG (τ : ZS) (k : Int) : Prop := ∀ j : Int, 0 ≤ j → j < k → zA τ 13 5 j = (yK τ (j + 1)).cur
theorem x_declareAll {σ : ZS} {Q : ZS → Prop} (h1 : NR σ) (h2 : NS σ) (h3 : NF σ) (h4 : DJ σ) (h5 : -1 ≤ zI σ 15 5 ∧ zI σ 15 5 ≤ 480) (h6 : zI σ 15 5 = zI σ 11 6) (h7 : LRg σ) (h24 : zI σ 11 5 ≤ 24) (hm : zI σ 11 6 = -1) (hQ : ∀ τ : ZS, LY τ → DS τ (zI τ 13 7) → kp [11, 13, 15] σ τ → zI τ 11 5 = zI σ 11 5 → zI τ 11 6 = -1 → zI τ 13 7 = zI σ 13 7 → (∀ f : Nat, f ≠ 5 → zA τ 13 f = zA σ 13 f) → DXd τ (yS τ) (yS τ).cur → DG τ (zI τ 13 7) → zA τ 11 0 = zA σ 11 0 → Q τ) : wpX2_declareAll σ Q := by
  unfold wpX2_declareAll wpX2_declareAll_9
  refine lfp2_ind (fun _ v _ => (248 - v).toNat) (fun c v τ => LY τ ∧ CU τ c v ∧ DS τ v ∧ kp [11, 13, 15] σ τ ∧ (0 ≤ v ∧ v ≤ zI τ 13 7) ∧ zI τ 11 5 = zI σ 11 5 ∧ zI τ 11 6 = -1 ∧ zI τ 13 7 = zI σ 13 7 ∧ (∀ f : Nat, f ≠ 5 → zA τ 13 f = zA σ 13 f) ∧ DXd τ (yK τ v) c ∧ DG τ v ∧ zA τ 11 0 = zA σ 11 0) (fun K c v τ hI ih => ?_) ⟨⟨h1, h2, h4.k rfl (ob_i (by decide)), (show (0 : Int) ≤ 0 ∧ (0 : Int) ≤ 60 by decide), h5, fun q => absurd (show 0 ≤ zI σ 11 6 from q) (by omega), h7, fun n n0 n1 => ?_, fun s s0 s1 => ?_⟩, ⟨(show (-1 : Int) ≤ -1 ∧ (-1 : Int) < 0 by decide), fun _ => Or.inr ⟨rfl, fun j j0 j1 => absurd j0 (by omega)⟩⟩, fun j j0 j1 => absurd j0 (by omega), kp.i (by decide), ⟨by decide, h4.1.1.1⟩, rfl, hm, rfl, fun f _ => rfl, ⟨fun n n0 n1 => ?_, rfl, fun s s0 s1 => ?_, rfl, ?_⟩, fun j j0 j1 => absurd j0 (by omega), rfl⟩
  · obtain ⟨ly, cu, ds, k, ⟨v0, v1⟩, e5, e6, e7, ea, dx, dg, e0w⟩ := hI
    have hz := ly.sz
    -- on to the next
    have next : ∀ (x : Int) (υ : ZS), v < zI τ 13 7 → LY υ → CU υ x (v + 1) → ob υ 13 = ob τ 13 → kp [11, 15] τ υ → zI τ 15 4 ≤ zI υ 15 4 → zI υ 11 5 = zI τ 11 5 → zI υ 11 6 = zI τ 11 6 → DXd υ (yI (yK τ v) (zA τ 13 0 v) (zA τ 13 1 v) (zA τ 13 2 v)) x → zA υ 11 0 = zA τ 11 0 → wpX2_declareAll_90 K x v υ Q := by
      intro x υ lt uy uc e13 uk us u5 u6 ux u0
      have yk : ∀ k : Int, yK (zsA υ 13 5 v x) k = yK τ k := fun k => (yK.k (zA_f (by decide)) (zA_f (by decide)) (zA_f (by decide))).trans (yK.k (ob_A e13 0) (ob_A e13 1) (ob_A e13 2))
      unfold wpX2_declareAll_90
      refine ⟨by omega, ih _ _ _ ⟨uy.s5, uc, fun j j0 j1 => ?_, (k.tr (uk.up (by decide))).ta (by decide), ⟨by omega, ?_⟩, u5.trans e5, u6.trans e6, (ob_I e13 7).trans e7, fun f hf => ?_, ?_, fun j j0 j1 => ?_, u0.trans e0w⟩ (by omega)⟩
      · show -1 ≤ zu (zA υ 13 5) v x j ∧ zu (zA υ 13 5) v x j < zI υ 15 4
        by_cases e : j = v
        · rw [e, pu_eq]; exact uc.1
        · rw [pu_ne e, ob_A e13 5]
          have := ds j j0 (by omega)
          omega
      · show v + 1 ≤ zI υ 13 7
        rw [ob_I e13 7]; omega
      · rw [zA_f hf, ob_A e13 f]; exact ea f hf
      · rw [yk, yK_s v0]; exact ux
      · rw [yk]
        show zu (zA υ 13 5) v x j = _
        by_cases e : j = v
        · rw [e, pu_eq, yK_s v0]; exact ux.2.2.2.1
        · rw [pu_ne e, ob_A e13 5]; exact dg j j0 (by omega)
    unfold wpbX2_declareAll_9
    refine ⟨by omega, by omega, fun q => ?_, fun lt => ?_⟩
    · have ev : zI τ 13 7 = v := by omega
      have ey : yS τ = yK τ v := by unfold yS yK; rw [ev]
      refine hQ τ ly (by rw [ev]; exact ds) k e5 e6 e7 ea ?_ (by rw [ev]; exact dg) e0w
      rw [ey]
      have hc := dx.2.2.2.1
      rw [hc] at dx
      exact dx
    have it := ly.it v0 (by omega)
    obtain ⟨i1, i2, i3, i4, i5, i6, i7, i8, i9, i10⟩ := it
    have cu0 := cu
    obtain ⟨c1, c2⟩ := cu
    have h60 : zI τ 15 4 < 60 := by
      have := pigeon (f := zA τ 15 2) (g := zA τ 11 2) (n := zI τ 15 4) (k := zI τ 11 5) ly.2.2.2.1.1 (by have := ly.2.1.1; omega) (fun s s0 s1 => ⟨(ly.2.2.2.2.2.2.2.2 s s0 s1).1, (ly.2.2.2.2.2.2.2.2 s s0 s1).2.2⟩)
      omega
    have keep : zA τ 13 0 v ≠ 0 → CU τ c (v + 1) := by
      intro ne
      refine ⟨c1, fun w => ?_⟩
      rcases c2 w with q | ⟨q, r⟩
      · exact Or.inl q
      · refine Or.inr ⟨q, fun j j0 j1 => ?_⟩
        by_cases e : j = v
        · rw [e]; exact ne
        · exact r j j0 (by omega)
    have dec : ∀ υ : ZS, zA τ 13 0 v ≠ 0 → LY υ → ob υ 13 = ob τ 13 → kp [11, 15] τ υ → zI υ 15 4 = zI τ 15 4 → (zI υ 15 5 < 0 → zI τ 15 5 < 0) → zI υ 11 5 = zI τ 11 5 → zI υ 11 6 = zI τ 11 6 → DXd υ (yI (yK τ v) (zA τ 13 0 v) (zA τ 13 1 v) (zA τ 13 2 v)) c → zA υ 11 0 = zA τ 11 0 → wpX2_declareAll_90 K c v υ Q := by
      intro υ ne uy e13 uk us uw u5 u6 ux u0
      obtain ⟨d1, d2⟩ := keep ne
      refine next c υ (by omega) uy ⟨by rw [us]; exact d1, fun w => ?_⟩ e13 uk (by omega) u5 u6 ux u0
      rw [us, ob_A e13 0]; exact d2 (uw w)
    have same : zA τ 13 0 v ≠ 0 → zA τ 13 0 v ≠ 1 → zA τ 13 0 v ≠ 3 → wpX2_declareAll_90 K c v τ Q := by
      intro ne n1 n3
      have y := yI_o (d := yK τ v) (t := zA τ 13 0 v) (v := zA τ 13 1 v) (n := zA τ 13 2 v) i1.1 i1.2 ne n1 n3
      exact next c τ (by omega) ly (keep ne) rfl kp.rf (Int.le_refl _) rfl rfl (dx.w y.1 y.2.1 y.2.2) rfl
    refine ⟨by omega, by omega, fun e0 => x_openSegment ly ⟨v0, by omega⟩ e0 cu0 e6 h60 (fun x υ uy uc e13 uk us ux u0 => next x υ (by omega) uy uc e13 uk us ?_ ?_ ?_ u0), fun n0 => ⟨fun e1 => ?_, fun n1 => ⟨fun e2 => same n0 n1 (by omega), fun _ => ⟨fun e3 => ?_, fun n3 => same n0 n1 n3⟩⟩⟩⟩
    · rcases ux with ⟨-, -, -, y, -⟩ | ⟨-, -, -, -, -, y, -⟩ | ⟨-, -, y, -⟩
      · exact ob_I y 5
      · exact y
      · rw [y]
    · rcases ux with ⟨-, -, -, y, -⟩ | ⟨-, -, -, -, -, -, y, -⟩ | ⟨-, -, y, -⟩
      · exact ob_I y 6
      · exact y
      · rw [y]
    · have hn : 0 ≤ zA τ 13 2 v := i6 (by omega) (by omega) (by omega)
      rw [e0]
      exact dx.seg ⟨hn, i3.2⟩ ux
    · have hn : 0 ≤ zA τ 13 2 v := i6 (by omega) (by omega) (by omega)
      refine x_declare ly ⟨v0, by omega⟩ hn (Or.inl ⟨rfl, c1, fun w => ?_⟩) e6 (fun υ uy e13 uk us uw ux u0 => dec υ n0 uy e13 uk us uw ?_ ?_ ?_ u0)
      · rcases c2 w with q | ⟨q, r⟩
        · exact q
        · rcases ly.2.2.1.2 v v0 (by omega) with z | z | z | ⟨j, j0, j1, j2⟩
          · omega
          · omega
          · omega
          · exact absurd j2 (r j j0 j1)
      · rcases ux.2.2 with ⟨-, -, -, -, y, -⟩ | ⟨-, -, y⟩
        · exact y
        · exact ob_I y 5
      · rcases ux.2.2 with ⟨-, -, -, -, -, y, -⟩ | ⟨-, -, y⟩
        · exact y
        · exact ob_I y 6
      · rw [e1]
        exact dx.lab ⟨hn, i3.2⟩ ux
    · have hn : 0 ≤ zA τ 13 2 v := i6 (by omega) (by omega) (by omega)
      refine x_declare ly ⟨v0, by omega⟩ hn (Or.inr ⟨rfl, rfl⟩) e6 (fun υ uy e13 uk us uw ux u0 => dec υ n0 uy e13 uk us uw ?_ ?_ ?_ u0)
      · rcases ux.2.2 with ⟨-, -, -, -, y, -⟩ | ⟨-, -, y⟩
        · exact y
        · exact ob_I y 5
      · rcases ux.2.2 with ⟨-, -, -, -, -, y, -⟩ | ⟨-, -, y⟩
        · exact y
        · exact ob_I y 6
      · rw [e3]
        exact dx.ext ⟨hn, i3.2⟩ ux
  · obtain ⟨z1, z2⟩ := h3 n n0 n1
    have z1' : zA (zsI σ 15 4 0) 11 1 n = 0 := z1
    rw [z1']
    exact ⟨fun _ => z2, fun q => absurd q (by decide), fun q => absurd q (by decide), fun q => absurd q (by decide)⟩
  · have s1' : s < 0 := s1
    omega
  · obtain ⟨z1, z2⟩ := h3 n n0 n1
    exact ⟨z1, fun q => by have q' : (0 : Int) = 1 ∨ (0 : Int) = 2 := q; omega, fun q => by have q' : (0 : Int) = 1 := q; omega⟩
  · have s1' : s < 0 := s1
    omega
  · show zI σ 15 5 < 0 ↔ ¬ False
    rw [h6, hm]
    exact ⟨fun _ q => q, fun _ => by decide⟩
/-- an item whose use is right, as the class sees it -/
def uCc (σ : ZS) (i : Int) : Prop := (zA σ 13 0 i = 2 → zA σ 11 1 (zA σ 13 2 i) = 2) ∧ (zA σ 13 0 i = 7 ∨ zA σ 13 0 i = 8 → zA σ 11 1 (zA σ 13 2 i) ≠ 0) ∧ (zA σ 13 0 i = 9 ∨ zA σ 13 0 i = 11 → (zA σ 11 1 (zA σ 13 2 i) = 2 ∧ zA σ 11 2 (zA σ 13 2 i) = zA σ 13 5 i) ∨ zA σ 11 1 (zA σ 13 2 i) = 3) ∧ (zA σ 13 0 i = 10 → zA σ 11 1 (zA σ 13 2 i) = 2 ∧ zA σ 11 2 (zA σ 13 2 i) = zA σ 13 5 i) ∧ (zA σ 13 0 i = 12 → zA σ 11 1 (zA σ 13 2 i) = 2 ∨ zA σ 11 1 (zA σ 13 2 i) = 3)
theorem x_isUseRight {σ : ZS} {i : Int} {Q : Int → ZS → Prop} (h : LY σ) (hd : DS σ (zI σ 13 7)) (hi : 0 ≤ i ∧ i < zI σ 13 7) (h1 : uCc σ i → Q 1 σ) (h0 : 0 ≤ zA σ 13 2 i → ¬ uCc σ i → Q 0 σ) : wpX2_isUseRight i σ Q := by
  have hz := h.sz
  have hs := hd i hi.1 hi.2
  obtain ⟨i1, i2, i3, i4, i5, i6, i7, i8, i9, i10⟩ := h.it hi.1 hi.2
  have hN := h.2.1.1
  have a4 := h.2.2.2.1
  have f57 : ∀ s : Int, ((s = 1 ∧ zA σ 11 1 (zA σ 13 2 i) = 2 ∧ zA σ 11 2 (zA σ 13 2 i) = zA σ 13 5 i) ∨ (s = 0 ∧ ¬ (zA σ 11 1 (zA σ 13 2 i) = 2 ∧ zA σ 11 2 (zA σ 13 2 i) = zA σ 13 5 i))) → 0 ≤ zA σ 13 2 i → wpX2_isUseRight_57 i (zA σ 11 1 (zA σ 13 2 i)) s σ Q := by
    intro s hs hn
    have hr := (h.1 (zA σ 13 2 i) hn (by omega)).2.1
    have y : ((zA σ 13 0 i = 2 → zA σ 11 1 (zA σ 13 2 i) = 2) ∧ (zA σ 13 0 i = 7 ∨ zA σ 13 0 i = 8 → zA σ 11 1 (zA σ 13 2 i) ≠ 0) ∧ (zA σ 13 0 i = 9 ∨ zA σ 13 0 i = 11 → (zA σ 11 1 (zA σ 13 2 i) = 2 ∧ zA σ 11 2 (zA σ 13 2 i) = zA σ 13 5 i) ∨ zA σ 11 1 (zA σ 13 2 i) = 3) ∧ (zA σ 13 0 i = 10 → zA σ 11 1 (zA σ 13 2 i) = 2 ∧ zA σ 11 2 (zA σ 13 2 i) = zA σ 13 5 i) ∧ (zA σ 13 0 i = 12 → zA σ 11 1 (zA σ 13 2 i) = 2 ∨ zA σ 11 1 (zA σ 13 2 i) = 3)) → Q 1 σ := h1
    have n : ¬ ((zA σ 13 0 i = 2 → zA σ 11 1 (zA σ 13 2 i) = 2) ∧ (zA σ 13 0 i = 7 ∨ zA σ 13 0 i = 8 → zA σ 11 1 (zA σ 13 2 i) ≠ 0) ∧ (zA σ 13 0 i = 9 ∨ zA σ 13 0 i = 11 → (zA σ 11 1 (zA σ 13 2 i) = 2 ∧ zA σ 11 2 (zA σ 13 2 i) = zA σ 13 5 i) ∨ zA σ 11 1 (zA σ 13 2 i) = 3) ∧ (zA σ 13 0 i = 10 → zA σ 11 1 (zA σ 13 2 i) = 2 ∧ zA σ 11 2 (zA σ 13 2 i) = zA σ 13 5 i) ∧ (zA σ 13 0 i = 12 → zA σ 11 1 (zA σ 13 2 i) = 2 ∨ zA σ 11 1 (zA σ 13 2 i) = 3)) → Q 0 σ := h0 hn
    have f152 : zA σ 13 0 i = 9 ∨ zA σ 13 0 i = 11 → wpX2_isUseRight_152 (zA σ 11 1 (zA σ 13 2 i)) s σ Q := by
      intro t
      unfold wpX2_isUseRight_152 wpX2_isUseRight_162 wpX2_isUseRight_167
      exact ⟨by omega, fun _ => ⟨by decide, y (by omega)⟩, fun _ => ⟨by omega, fun _ => ⟨by decide, n (by omega)⟩, fun _ => ⟨by decide, y (by omega)⟩⟩⟩
    have f139 : zA σ 13 0 i = 7 ∨ zA σ 13 0 i = 8 → wpX2_isUseRight_139 (zA σ 11 1 (zA σ 13 2 i)) σ Q := by
      intro t
      unfold wpX2_isUseRight_139 wpX2_isUseRight_148
      exact ⟨by omega, fun _ => ⟨by decide, n (by omega)⟩, fun _ => ⟨by decide, y (by omega)⟩⟩
    unfold wpX2_isUseRight_57 wpX2_isUseRight_138 wpX2_isUseRight_184 wpX2_isUseRight_178 wpX2_isUseRight_183
    refine ⟨by omega, by omega, fun _ => ⟨by omega, fun _ => ⟨by decide, n (by omega)⟩, fun e => ⟨by decide, y (by omega)⟩⟩, fun n2 => ⟨fun _ => y (by omega), fun _ => ⟨fun _ => y (by omega), fun _ => ⟨fun _ => y (by omega), fun _ => ⟨fun _ => y (by omega), fun _ => ⟨fun e => f139 (Or.inl e), fun _ => ⟨fun e => f139 (Or.inr e), fun _ => ⟨fun e => f152 (Or.inl e), fun _ => ⟨fun e => ⟨by omega, ?_⟩, fun _ => ⟨fun e => f152 (Or.inr e), fun _ => ⟨fun _ => ⟨by omega, fun _ => ⟨by decide, y (by omega)⟩, fun _ => ⟨fun _ => ⟨by decide, n (by omega)⟩, fun _ => ⟨by decide, y (by omega)⟩⟩⟩, fun _ => y (by omega)⟩⟩⟩⟩⟩⟩⟩⟩⟩⟩⟩
    rcases hs with ⟨e1, e2, e3⟩ | ⟨e1, e2⟩
    · rw [e1]; exact y (by omega)
    · rw [e1]; exact n (by omega)
  unfold wpX2_isUseRight wpX2_isUseRight_56
  refine ⟨by omega, by omega, fun hn => ?_, fun hn => h1 ?_⟩
  · have hr := h.1 (zA σ 13 2 i) hn (by omega)
    exact ⟨by omega, by omega, fun q => f57 0 (Or.inr ⟨rfl, fun z => q z.1⟩) hn, fun q => ⟨by omega, by omega, fun q' => f57 0 (Or.inr ⟨rfl, fun z => q' z.2⟩) hn, fun q' => f57 1 (Or.inl ⟨rfl, q, q'⟩) hn⟩⟩
  · have t : zA σ 13 0 i = 4 ∨ zA σ 13 0 i = 5 ∨ zA σ 13 0 i = 6 := by
      by_cases z : zA σ 13 0 i = 4 ∨ zA σ 13 0 i = 5 ∨ zA σ 13 0 i = 6
      · exact z
      · exact absurd (i6 (by omega) (by omega) (by omega)) hn
    unfold uCc
    exact ⟨fun q => by omega, fun q => by omega, fun q => by omega, fun q => by omega, fun q => by omega⟩
/-- all names are right, as the walk sees it -/
def yOK (D : YD) : Prop := ¬ D.bad ∧ ∀ u : Int, 0 ≤ u → u < D.u.nu → uOK D (D.u.uk u) (D.u.un u) (D.u.us u)
theorem uCc_iff {σ : ZS} {D : YD} {i : Int} (h : LY σ) (dx : ∀ n : Int, 0 ≤ n → n < zI σ 11 5 → zA σ 11 1 n = D.so n ∧ (D.so n = 1 ∨ D.so n = 2 → zA σ 11 2 n = D.sg n) ∧ (D.so n = 1 → zA σ 11 3 n = D.al n)) (dg : DG σ (zI σ 13 7)) (hi : 0 ≤ i ∧ i < zI σ 13 7) : uCc σ i ↔ uOK D (iK (zA σ 13 0 i)) (zA σ 13 2 i) (yK σ (i + 1)).cur := by
  obtain ⟨i1, i2, i3, i4, i5, i6, i7, i8, i9, i10⟩ := h.it hi.1 hi.2
  have eg := dg i hi.1 hi.2
  unfold uCc uOK iK
  rw [← eg]
  by_cases hn : 0 ≤ zA σ 13 2 i
  · obtain ⟨e1, e2, -⟩ := dx (zA σ 13 2 i) hn i3.2
    have hc : zA σ 13 0 i = 2 ∨ zA σ 13 0 i = 7 ∨ zA σ 13 0 i = 8 ∨ zA σ 13 0 i = 9 ∨ zA σ 13 0 i = 11 ∨ zA σ 13 0 i = 10 ∨ zA σ 13 0 i = 12 ∨ (zA σ 13 0 i ≠ 2 ∧ zA σ 13 0 i ≠ 7 ∧ zA σ 13 0 i ≠ 8 ∧ zA σ 13 0 i ≠ 9 ∧ zA σ 13 0 i ≠ 11 ∧ zA σ 13 0 i ≠ 10 ∧ zA σ 13 0 i ≠ 12) := by omega
    have hr := (h.1 (zA σ 13 2 i) hn (by have := h.2.1.1; omega)).2.1
    rcases hc with z | z | z | z | z | z | z | z
    · rw [if_pos z]; omega
    · rw [if_neg (by omega), if_pos (by omega)]; omega
    · rw [if_neg (by omega), if_pos (by omega)]; omega
    · rw [if_neg (by omega), if_neg (by omega), if_pos (by omega)]; omega
    · rw [if_neg (by omega), if_neg (by omega), if_pos (by omega)]; omega
    · rw [if_neg (by omega), if_neg (by omega), if_neg (by omega), if_pos (by omega)]; omega
    · rw [if_neg (by omega), if_neg (by omega), if_neg (by omega), if_neg (by omega), if_pos (by omega)]; omega
    · rw [if_neg (by omega), if_neg (by omega), if_neg (by omega), if_neg (by omega), if_neg (by omega)]; omega
  · have t : zA σ 13 0 i = 4 ∨ zA σ 13 0 i = 5 ∨ zA σ 13 0 i = 6 := by
      by_cases z : zA σ 13 0 i = 4 ∨ zA σ 13 0 i = 5 ∨ zA σ 13 0 i = 6
      · exact z
      · exact absurd (i6 (by omega) (by omega) (by omega)) hn
    rw [if_neg (by omega), if_neg (by omega), if_neg (by omega), if_neg (by omega), if_neg (by omega)]
    omega
/-! X: whether a name is wrong, on both sides -/
theorem uCc.k {σ τ : ZS} {i : Int} (e11 : ob τ 11 = ob σ 11) (e13 : ob τ 13 = ob σ 13) (h : uCc σ i) : uCc τ i := by
  unfold uCc at h ⊢
  rw [ob_A e11 1, ob_A e11 2, ob_A e13 0, ob_A e13 2, ob_A e13 5]; exact h
theorem x_firstWrong {σ : ZS} {Q : Int → ZS → Prop} (h1 : NR σ) (h2 : NS σ) (h3 : NF σ) (h4 : DJ σ) (h7 : LRg σ) (h24 : zI σ 11 5 ≤ 24) (hm : zI σ 11 6 = -1) (hQ : ∀ (x : Int) (τ : ZS), LY τ → DS τ (zI τ 13 7) → x = zI τ 15 5 → (x < 0 → UR τ (zI τ 13 7)) → kp [11, 13, 15] σ τ → zI τ 11 5 = zI σ 11 5 → zI τ 13 7 = zI σ 13 7 → (∀ f : Nat, f ≠ 5 → zA τ 13 f = zA σ 13 f) → (x < 0 → DXd τ (yS τ) (yS τ).cur ∧ DG τ (zI τ 13 7)) → (x < 0 ↔ yOK (yS τ)) → zA τ 11 0 = zA σ 11 0 → Q x τ) : wpX2_firstWrong σ Q := by
  unfold wpX2_firstWrong
  refine x_declareAll h1 h2 h3 (h4.k rfl (ob_i (by decide))) ?_ rfl h7 h24 hm (fun τ0 ly0 ds0 k0 f5 f6 f7 fa dx0 dg0 f0 => ?_)
  · have := h2.2.1
    show -1 ≤ zI σ 11 6 ∧ zI σ 11 6 ≤ 480
    omega
  have f5' : zI τ0 11 5 = zI σ 11 5 := f5
  have f7' : zI τ0 13 7 = zI σ 13 7 := f7
  have fa' : ∀ f : Nat, f ≠ 5 → zA τ0 13 f = zA σ 13 f := fa
  unfold wpX2_firstWrong_17
  refine lfp1_ind (fun v _ => (248 - v).toNat) (fun v τ => LY τ ∧ DS τ (zI τ 13 7) ∧ (zI τ 15 5 < 0 → UR τ v) ∧ kp [15] τ0 τ ∧ (0 ≤ v ∧ v ≤ zI τ 13 7) ∧ zI τ 15 4 = zI τ0 15 4 ∧ zA τ 15 2 = zA τ0 15 2 ∧ (zI τ 15 5 < 0 ↔ zI τ0 15 5 < 0 ∧ ∀ j : Int, 0 ≤ j → j < v → uCc τ0 j)) (fun K v τ hI ih => ?_) ⟨ly0, ds0, fun _ j j0 j1 => absurd j0 (by omega), kp.rf, ⟨by decide, ly0.sz.1⟩, rfl, rfl, ⟨fun q => ⟨q, fun j j0 j1 => absurd j0 (by omega)⟩, fun q => q.1⟩⟩
  obtain ⟨ly, ds, ur, k, ⟨v0, v1⟩, e4, e2, iff⟩ := hI
  have hz := ly.sz
  have e11 : ob τ 11 = ob τ0 11 := k 11 (by decide)
  have e13 : ob τ 13 = ob τ0 13 := k 13 (by decide)
  unfold wpbX2_firstWrong_17 wpX2_firstWrong_49
  refine ⟨by omega, by omega, fun q => ?_, fun lt => x_isUseRight ly ds ⟨v0, by omega⟩ (fun u => ⟨by decide, fun _ => ih _ _ ⟨ly, ds, fun w j j0 j1 => ?_, k, ⟨by omega, by omega⟩, e4, e2, ?_⟩ (by omega), fun q => absurd q (by decide)⟩) (fun hn nu => ⟨by decide, fun q => absurd rfl q, fun _ => ⟨by omega, ?_⟩⟩)⟩
  · have ev : zI τ 13 7 = v := by omega
    have ey : yS τ = yS τ0 := yS.k e13
    have ok := yF_ok (a := zA τ0 13 0) (b := zA τ0 13 1) (c := zA τ0 13 2) (yS τ0) (zI τ0 13 7).toNat (fun j hj => (ly0.it (i := (j : Int)) (by omega) (by omega)).1)
    have hx : zI τ 15 5 < 0 ↔ yOK (yS τ) := by
      rw [ey, iff]
      unfold yOK
      have ez : zI τ0 13 7 = v := by rw [← ob_I e13 7]; exact ev
      constructor
      · rintro ⟨q1, q2⟩
        refine ⟨dx0.2.2.2.2.mp q1, ok.2.mpr (fun j hj => ?_)⟩
        have := (uCc_iff ly0 dx0.1 dg0 (i := (j : Int)) ⟨by omega, by omega⟩).mp (q2 j (by omega) (by omega))
        unfold yK at this
        rw [show ((j : Int) + 1).toNat = j + 1 by omega] at this
        exact this
      · rintro ⟨q1, q2⟩
        refine ⟨dx0.2.2.2.2.mpr q1, fun j j0 j1 => (uCc_iff ly0 dx0.1 dg0 ⟨j0, by omega⟩).mpr ?_⟩
        have := ok.2.mp q2 j.toNat (by omega)
        rw [show ((j.toNat : Nat) : Int) = j by omega] at this
        unfold yK
        rw [show (j + 1).toNat = j.toNat + 1 by omega]
        exact this
    refine hQ _ τ ly ds rfl (fun w => by rw [ev]; exact ur w) (((kp.i (by decide)).tr k0).tr (k.up (by decide))) ((ob_I e11 5).trans f5') ((ob_I e13 7).trans f7') (fun f hf => (ob_A e13 f).trans (fa' f hf)) (fun w => ⟨?_, ?_⟩) hx ((ob_A e11 0).trans f0)
    · rw [ey]
      refine ⟨?_, e4.trans dx0.2.1, by rw [e2]; exact dx0.2.2.1, rfl, ?_⟩
      · rw [ob_I e11 5, ob_A e11 1, ob_A e11 2, ob_A e11 3]; exact dx0.1
      · have w0 := (iff.mp w).1
        exact ⟨fun _ => dx0.2.2.2.2.mp w0, fun _ => w⟩
    · intro j j0 j1
      rw [ob_I e13 7] at j1
      rw [ob_A e13 5, yK.k (ob_A e13 0) (ob_A e13 1) (ob_A e13 2)]
      exact dg0 j j0 j1
  · by_cases e : j = v
    · rw [e]; exact u.1
    · exact ur w j j0 (by omega)
  · rw [iff]
    refine ⟨fun q => ⟨q.1, fun j j0 j1 => ?_⟩, fun q => ⟨q.1, fun j j0 j1 => q.2 j j0 (by omega)⟩⟩
    by_cases e : j = v
    · rw [e]; exact u.k e11.symm e13.symm
    · exact q.2 j j0 (by omega)
  · obtain ⟨i1, i2, i3, i4, i5, i6, i7, i8, i9, i10⟩ := ly.it v0 (show v < zI τ 13 7 by omega)
    have hp := i7 hn
    have no : ¬ (zI τ0 15 5 < 0 ∧ ∀ j : Int, 0 ≤ j → j < v + 1 → uCc τ0 j) := fun q => nu ((q.2 v v0 (by omega)).k e11 e13)
    refine c_blame ly (by omega) (fun w => ih _ _ ⟨ly, ds, fun q => absurd q (by omega), k, ⟨by omega, by omega⟩, e4, e2, ⟨fun q => absurd q (by omega), fun q => absurd q no⟩⟩ (by omega)) (fun w w0 w1 => ih _ _ ⟨ly.bl w0 w1, ds, fun q => ?_, k.ti (by decide), ?_, e4, e2, ⟨fun q => ?_, fun q => absurd q no⟩⟩ (by omega))
    · have q' : w < 0 := q
      omega
    · show 0 ≤ v + 1 ∧ v + 1 ≤ zI τ 13 7
      omega
    · have q' : w < 0 := q
      omega
/-- a use that is right, as the reference sees it -/
def Ju (σ : ZS) (u : Int) : Prop := (zA σ 0 19 u = 0 → zA σ 0 13 (zA σ 0 20 u) = 2) ∧ (zA σ 0 19 u = 1 → zA σ 0 13 (zA σ 0 20 u) ≠ 0) ∧ (zA σ 0 19 u = 2 → zA σ 0 13 (zA σ 0 20 u) = 2 ∧ zA σ 0 14 (zA σ 0 20 u) = zA σ 0 22 u) ∧ (zA σ 0 19 u = 3 → (zA σ 0 13 (zA σ 0 20 u) = 2 ∧ zA σ 0 14 (zA σ 0 20 u) = zA σ 0 22 u) ∨ zA σ 0 13 (zA σ 0 20 u) = 3) ∧ (zA σ 0 19 u = 4 → 1 < zA σ 0 13 (zA σ 0 20 u))
theorem x_judge {σ : ZS} {Q : ZS → Prop} (hA : AI σ) (hQ : ∀ τ : ZS, AI τ → fr [18] [] σ τ → (zI τ 0 18 < 0 ↔ zI σ 0 18 < 0 ∧ ∀ u : Int, 0 ≤ u → u < zI σ 0 23 → Ju σ u) → Q τ) : wpX11_judge σ Q := by
  obtain ⟨⟨c1, c2, c3, c4, c5, c6⟩, cw, h1, h2, h3, h4, h5, h6⟩ := hA
  have hA0 : AI σ := ⟨⟨c1, c2, c3, c4, c5, c6⟩, cw, h1, h2, h3, h4, h5, h6⟩
  unfold wpX11_judge wpX11_judge_2
  refine lfp1_ind (fun u _ => (480 - u).toNat) (fun u τ => (0 ≤ u ∧ u ≤ zI σ 0 23) ∧ fr [18] [] σ τ ∧ (-1 ≤ zI τ 0 18 ∧ zI τ 0 18 ≤ 480) ∧ (zI τ 0 18 < 0 ↔ zI σ 0 18 < 0 ∧ ∀ j : Int, 0 ≤ j → j < u → Ju σ j)) ?_ ⟨by omega, fr.rf, c5, ⟨fun q => ⟨q, fun j a b => by omega⟩, fun q => q.1⟩⟩
  intro P u τ hI hP
  obtain ⟨hu, hf, hw, hj⟩ := hI
  have i23 := hf.1 23 (by decide)
  have a13 := hf.2 13 (by decide); have a14 := hf.2 14 (by decide); have a19 := hf.2 19 (by decide); have a20 := hf.2 20 (by decide); have a21 := hf.2 21 (by decide); have a22 := hf.2 22 (by decide)
  unfold wpbX11_judge_2
  rw [i23, a20, a13, a14, a22]
  refine ⟨by omega, by omega, fun q => hQ τ (hf.ai hA0 hw (fun q => (hj.mp q).1)) hf (hj.trans ⟨fun q2 => ⟨q2.1, fun j j0 j1 => q2.2 j j0 (by omega)⟩, fun q2 => ⟨q2.1, fun j j0 j1 => q2.2 j j0 (by omega)⟩⟩), fun q => ?_⟩
  · obtain ⟨u1, u2, u3, u4⟩ := h2 u hu.1 (by omega)
    obtain ⟨n1, n2, n3, n4⟩ := h1 (zA σ 0 20 u) u2.1 u2.2
    have good : Ju σ u → wpX11_judge_163 P u 1 τ Q := by
      intro jd
      unfold wpX11_judge_163 wpX11_judge_180
      refine ⟨by decide, fun _ => hP _ _ ⟨by omega, hf, hw, hj.trans ⟨fun q2 => ⟨q2.1, fun j j0 j1 => ?_⟩, fun q2 => ⟨q2.1, fun j j0 j1 => q2.2 j j0 (by omega)⟩⟩⟩ (by omega), fun q2 => absurd q2 (by decide)⟩
      by_cases e : j = u
      · rw [e]; exact jd
      · exact q2.2 j j0 (by omega)
    have bad : ¬ Ju σ u → wpX11_judge_163 P u 0 τ Q := by
      intro nj
      have no : ¬ (zI σ 0 18 < 0 ∧ ∀ j : Int, 0 ≤ j → j < u + 1 → Ju σ j) := fun q => nj (q.2 u hu.1 (by omega))
      unfold wpX11_judge_163 wpX11_judge_180
      refine ⟨by decide, fun q2 => absurd rfl q2, fun _ => ⟨by omega, ?_⟩⟩
      rw [a21]
      unfold wpX11_wrongAt wpX11_wrongAt_15 wpX11_wrongAt_20
      have set : ∀ w : Int, 0 ≤ w → w ≤ 480 → P (u + 1) (zsI τ 0 18 w) := fun w w0 w1 => hP _ _ ⟨by omega, hf.ti (by decide), (by show -1 ≤ w ∧ w ≤ 480; omega), ⟨fun q2 => by have q3 : w < 0 := q2; omega, fun q2 => absurd q2 no⟩⟩ (by omega)
      refine ⟨by omega, fun _ => set _ u3.1 u3.2, fun nn => ⟨by omega, fun _ => ?_, fun _ => set _ u3.1 u3.2⟩⟩
      have := set (zI τ 0 18) (by omega) hw.2
      rw [zsI_self] at this
      exact this
    have f47 : ∀ s0 : Int, ((s0 = 1 ∧ zA σ 0 13 (zA σ 0 20 u) = 2 ∧ zA σ 0 14 (zA σ 0 20 u) = zA σ 0 22 u) ∨ (s0 = 0 ∧ ¬ (zA σ 0 13 (zA σ 0 20 u) = 2 ∧ zA σ 0 14 (zA σ 0 20 u) = zA σ 0 22 u))) → wpX11_judge_47 P u (zA σ 0 20 u) s0 τ Q := by
      intro s0 hs
      unfold Ju at good bad
      unfold wpX11_judge_47 wpX11_judge_140
      rw [a19, a13]
      refine ⟨by omega, by omega, fun k0 => ⟨fun k1 => ⟨fun k2 => ⟨fun k3 => ⟨by omega, by omega, fun _ => bad (by omega), fun g => good (by omega)⟩, fun k3 => ⟨by omega, fun _ => good (by omega), fun _ => ⟨by omega, by omega, fun _ => bad (by omega), fun _ => good (by omega)⟩⟩⟩, fun k2 => ?_⟩, fun k1 => ⟨by omega, by omega, fun _ => bad (by omega), fun g => good (by omega)⟩⟩, fun k0 => ⟨by omega, by omega, fun _ => bad (by omega), fun g => good (by omega)⟩⟩
      rcases hs with ⟨e, e'⟩ | ⟨e, e'⟩
      · rw [e]; exact good (by omega)
      · rw [e]; exact bad (by omega)
    unfold wpX11_judge_46
    exact ⟨by omega, by omega, by omega, fun y => f47 0 (Or.inr ⟨rfl, fun z => y z.1⟩), fun y => ⟨by omega, by omega, fun z => f47 0 (Or.inr ⟨rfl, fun w => z w.2⟩), fun z => f47 1 (Or.inl ⟨rfl, y, z⟩)⟩⟩
/-- the reference's judgement is the walk's -/
theorem Ju_ok {ρ : ZS} {m : Int} {D : YD} (hN : YN ρ m D) (hU : YU ρ (pU D [])) (h5 : ∀ u : Int, 0 ≤ u → u < zI ρ 0 23 → 0 ≤ zA ρ 0 20 u ∧ zA ρ 0 20 u < m) : (zI ρ 0 18 < 0 ∧ ∀ u : Int, 0 ≤ u → u < zI ρ 0 23 → Ju ρ u) ↔ yOK D := by
  have hU' : YU ρ D.u := hU
  obtain ⟨e23, eu⟩ := hU'
  have key : ∀ u : Int, 0 ≤ u → u < zI ρ 0 23 → (Ju ρ u ↔ uOK D (D.u.uk u) (D.u.un u) (D.u.us u)) := by
    intro u u0 u1
    obtain ⟨w1, w2, w3⟩ := eu u u0 (by omega)
    have hb := h5 u u0 u1
    obtain ⟨z1, z2, -⟩ := hN.1 (zA ρ 0 20 u) hb.1 hb.2
    unfold Ju uOK
    rw [← w1, ← w2, ← w3]
    omega
  unfold yOK
  rw [hN.2.2.2.2.2]
  refine ⟨fun q => ⟨q.1, fun u u0 u1 => (key u u0 (by omega)).mp (q.2 u u0 (by omega))⟩, fun q => ⟨q.1, fun u u0 u1 => (key u u0 u1).mpr (q.2 u u0 (by omega))⟩⟩
