/-! X: names declared by the class, exactly -/
theorem x_blame {p : Int} {σ : ZS} {R Q : ZS → Prop} (hp : 0 ≤ p) (g : wpX2_blame p σ R) (hQ : ∀ τ : ZS, R τ → 0 ≤ zI τ 15 5 → kp [15] σ τ → zI τ 15 4 = zI σ 15 4 → zA τ 15 2 = zA σ 15 2 → Q τ) : wpX2_blame p σ Q := by
  have hp' : 0 ≤ zI (zsI σ 15 5 p) 15 5 := hp
  unfold wpX2_blame wpX2_blame_15 wpX2_blame_20 at g ⊢
  exact ⟨g.1, fun q => hQ _ (g.2.1 q) hp' (kp.i (by decide)) rfl rfl, fun q => ⟨(g.2.2 q).1, fun q' => hQ _ ((g.2.2 q).2.1 q') (by omega) kp.rf rfl rfl, fun q' => hQ _ ((g.2.2 q).2.2 q') hp' (kp.i (by decide)) rfl rfl⟩⟩
theorem x_mayDeclare {i : Int} {σ : ZS} {R Q : Int → ZS → Prop} (g : wpX2_mayDeclare i σ R) (hp : 0 ≤ zA σ 13 3 i) (hc : zA σ 13 3 i ≠ zI σ 11 6) (h1 : R 1 σ → zA σ 11 1 (zA σ 13 2 i) = 0 → Q 1 σ) (h0 : zA σ 11 1 (zA σ 13 2 i) ≠ 0 → ∀ τ : ZS, R 0 τ → 0 ≤ zI τ 15 5 → kp [15] σ τ → zI τ 15 4 = zI σ 15 4 → zA τ 15 2 = zA σ 15 2 → Q 0 τ) : wpX2_mayDeclare i σ Q := by
  unfold wpX2_mayDeclare wpX2_mayDeclare_43 at g ⊢
  obtain ⟨g1, g2, g3, g4, g5⟩ := g
  exact ⟨g1, g2, g3, fun n => x_blame hp (g4 n) (h0 n), fun e => ⟨(g5 e).1, (g5 e).2.1, fun q => absurd q hc, fun q => h1 ((g5 e).2.2.2 q) e⟩⟩
def xSg (σ τ : ZS) (n a c x : Int) : Prop := ((1 < zA σ 11 1 n ∨ (zA σ 11 1 n = 1 ∧ zA σ 11 3 n ≠ a)) ∧ x = c ∧ 0 ≤ zI τ 15 5 ∧ ob τ 11 = ob σ 11 ∧ zI τ 15 4 = zI σ 15 4 ∧ zA τ 15 2 = zA σ 15 2) ∨ (zA σ 11 1 n = 0 ∧ x = zI σ 15 4 ∧ zA τ 11 1 = zu (zA σ 11 1) n 1 ∧ zA τ 11 2 = zu (zA σ 11 2) n (zI σ 15 4) ∧ zA τ 11 3 = zu (zA σ 11 3) n a ∧ zI τ 11 5 = zI σ 11 5 ∧ zI τ 11 6 = zI σ 11 6 ∧ zA τ 15 2 = zu (zA σ 15 2) (zI σ 15 4) n ∧ zI τ 15 4 = zI σ 15 4 + 1 ∧ zI τ 15 5 = zI σ 15 5) ∨ (zA σ 11 1 n = 1 ∧ zA σ 11 3 n = a ∧ τ = σ ∧ x = zA σ 11 2 n)
theorem x_openSegment {σ : ZS} {i c : Int} {Q : Int → ZS → Prop} (h : LY σ) (hi : 0 ≤ i ∧ i < zI σ 13 7) (ht : zA σ 13 0 i = 0) (hc : CU σ c i) (h6 : zI σ 11 6 = -1) (h60 : zI σ 15 4 < 60) (hQ : ∀ (x : Int) (τ : ZS), LY τ → CU τ x (i + 1) → ob τ 13 = ob σ 13 → kp [11, 15] σ τ → zI σ 15 4 ≤ zI τ 15 4 → xSg σ τ (zA σ 13 2 i) (zA σ 13 1 i) c x → zA τ 11 0 = zA σ 11 0 → Q x τ) : wpX2_openSegment i c σ Q := by
  have hit := h.it hi.1 hi.2
  obtain ⟨i1, i2, i3, i4, i5, i6, i7, i8, i9, i10⟩ := hit
  have hn : 0 ≤ zA σ 13 2 i := i6 (by omega) (by omega) (by omega)
  have hp := i7 hn
  have hN := h.2.1.1
  have hr := (h.1 (zA σ 13 2 i) hn (by omega)).2.1
  have g := c_openSegment (Q := fun x τ => LY τ ∧ CU τ x (i + 1) ∧ ob τ 13 = ob σ 13 ∧ kp [11, 15] σ τ ∧ zI σ 15 4 ≤ zI τ 15 4) h hi ht hc (fun x τ a b c d e => ⟨a, b, c, d, e⟩)
  have f58 : ¬ (zA σ 11 1 (zA σ 13 2 i) = 1 ∧ zA σ 11 3 (zA σ 13 2 i) = zA σ 13 1 i) → wpX2_openSegment_58 i c (zA σ 13 2 i) (zA σ 13 1 i) σ (fun x τ => LY τ ∧ CU τ x (i + 1) ∧ ob τ 13 = ob σ 13 ∧ kp [11, 15] σ τ ∧ zI σ 15 4 ≤ zI τ 15 4) → wpX2_openSegment_58 i c (zA σ 13 2 i) (zA σ 13 1 i) σ Q := by
    intro hne k
    unfold wpX2_openSegment_58 wpX2_openSegment_75 wpX5_make at k ⊢
    refine x_mayDeclare k hp (by omega) (fun r r0 => ?_) (fun nr τ r w kk e4 e2 => ?_)
    · have n1 : ¬ (1 : Int) = 0 := by decide
      refine ⟨by decide, fun q => absurd q n1, fun _ => ⟨(r.2.2 n1).1, fun lt => ?_, fun ge => absurd h60 ge⟩⟩
      obtain ⟨r1, r2, r3, r4, r5, r6, r7, r8⟩ := (r.2.2 n1).2.1 lt
      refine ⟨r1, r2, r3, hQ _ _ r4 r5 r6 r7 r8 (Or.inr (Or.inl ⟨r0, ?_, rfl, rfl, rfl, rfl, rfl, rfl, rfl, rfl⟩)) rfl⟩
      show zI σ 15 4 + 1 - 1 = zI σ 15 4
      omega
    · obtain ⟨r1, r2, r3, r4, r5⟩ := r.2.1 rfl
      refine ⟨by decide, fun _ => hQ c τ r1 r2 r3 r4 r5 (Or.inl ⟨?_, rfl, w, kk 11 (by decide), e4, e2⟩) (ob_A (kk 11 (by decide)) 0), fun q => absurd rfl q⟩
      by_cases z : zA σ 11 1 (zA σ 13 2 i) = 1
      · exact Or.inr ⟨z, fun y => hne ⟨z, y⟩⟩
      · exact Or.inl (by omega)
  unfold wpX2_openSegment at g ⊢
  obtain ⟨g1, g2, g3, g4, g5⟩ := g
  refine ⟨g1, g2, g3, fun n => f58 (fun q => n q.1) (g4 n), fun e => ⟨(g5 e).1, (g5 e).2.1, fun n => f58 (fun q => n q.2) ((g5 e).2.2.1 n), fun y => ?_⟩⟩
  obtain ⟨r1, r2, r3, r4, r5⟩ := (g5 e).2.2.2 y
  exact hQ _ σ r1 r2 r3 r4 r5 (Or.inr (Or.inr ⟨e, y, rfl, rfl⟩)) rfl
def xDc (σ τ : ZS) (n r c : Int) : Prop := zI τ 15 4 = zI σ 15 4 ∧ zA τ 15 2 = zA σ 15 2 ∧ ((zA σ 11 1 n = 0 ∧ zA τ 11 1 = zu (zA σ 11 1) n r ∧ zA τ 11 2 = zu (zA σ 11 2) n c ∧ zA τ 11 3 = zA σ 11 3 ∧ zI τ 11 5 = zI σ 11 5 ∧ zI τ 11 6 = zI σ 11 6 ∧ zI τ 15 5 = zI σ 15 5) ∨ (zA σ 11 1 n ≠ 0 ∧ 0 ≤ zI τ 15 5 ∧ ob τ 11 = ob σ 11))
theorem x_declare {σ : ZS} {i r c : Int} {Q : ZS → Prop} (h : LY σ) (hi : 0 ≤ i ∧ i < zI σ 13 7) (hn : 0 ≤ zA σ 13 2 i) (hr : (r = 2 ∧ (-1 ≤ c ∧ c < zI σ 15 4) ∧ (zI σ 15 5 < 0 → 0 ≤ c)) ∨ (r = 3 ∧ c = -1)) (h6 : zI σ 11 6 = -1) (hQ : ∀ τ : ZS, LY τ → ob τ 13 = ob σ 13 → kp [11, 15] σ τ → zI τ 15 4 = zI σ 15 4 → (zI τ 15 5 < 0 → zI σ 15 5 < 0) → xDc σ τ (zA σ 13 2 i) r c → zA τ 11 0 = zA σ 11 0 → Q τ) : wpX2_declare i r c σ Q := by
  have hit := h.it hi.1 hi.2
  obtain ⟨i1, i2, i3, i4, i5, i6, i7, i8, i9, i10⟩ := hit
  have hp := i7 hn
  have g := c_declare (Q := fun τ => LY τ ∧ ob τ 13 = ob σ 13 ∧ kp [11, 15] σ τ ∧ zI τ 15 4 = zI σ 15 4 ∧ (zI τ 15 5 < 0 → zI σ 15 5 < 0)) h hi hn hr (fun τ a b c d e => ⟨a, b, c, d, e⟩)
  unfold wpX2_declare wpX2_declare_26 wpX5_make at g ⊢
  refine x_mayDeclare g hp (by omega) (fun r r0 => ?_) (fun nr τ r w kk e4 e2 => ?_)
  · have n1 : ¬ (1 : Int) = 0 := by decide
    obtain ⟨r1, r2, r3, r4, r5, r6, r7⟩ := r.2.2 n1
    exact ⟨by decide, fun q => absurd q n1, fun _ => ⟨r1, r2, hQ _ r3 r4 r5 r6 r7 ⟨rfl, rfl, Or.inl ⟨r0, rfl, rfl, rfl, rfl, rfl, rfl⟩⟩ rfl⟩⟩
  · obtain ⟨r1, r2, r3, r4, r5⟩ := r.2.1 rfl
    exact ⟨by decide, fun _ => hQ τ r1 r2 r3 r4 r5 ⟨e4, e2, Or.inr ⟨nr, w, kk 11 (by decide)⟩⟩ (ob_A (kk 11 (by decide)) 0), fun q => absurd rfl q⟩
/-- what the class has declared is what the walk has -/
def DXd (τ : ZS) (d : YD) (c : Int) : Prop := (∀ n : Int, 0 ≤ n → n < zI τ 11 5 → zA τ 11 1 n = d.so n ∧ (d.so n = 1 ∨ d.so n = 2 → zA τ 11 2 n = d.sg n) ∧ (d.so n = 1 → zA τ 11 3 n = d.al n)) ∧ zI τ 15 4 = d.ns ∧ (∀ s : Int, 0 ≤ s → s < d.ns → zA τ 15 2 s = d.sn s) ∧ c = d.cur ∧ (zI τ 15 5 < 0 ↔ ¬ d.bad)
theorem DXd.seg {σ τ : ZS} {d : YD} {n a c x : Int} (h : DXd σ d c) (hn : 0 ≤ n ∧ n < zI σ 11 5) (hx : xSg σ τ n a c x) : DXd τ (ySeg d n a) x := by
  have h0 := h
  obtain ⟨hN, h4, h2, hc, h5⟩ := h
  have nn := hN n hn.1 hn.2
  rw [ySeg_eq]
  rcases hx with ⟨x1, x2, x3, x4, x5, x6⟩ | ⟨x0, x1, x2, x3, x4, x5, x6, x7, x8, x9⟩ | ⟨x1, x2, x3, x4⟩
  · rw [if_pos (by
      rcases x1 with y | ⟨y, z⟩
      · exact Or.inl (by rw [← nn.1]; exact y)
      · have e : d.so n = 1 := by rw [← nn.1]; exact y
        exact Or.inr ⟨e, fun q => z (by rw [nn.2.2 e]; exact q)⟩)]
    refine ⟨by rw [ob_I x4 5, ob_A x4 1, ob_A x4 2, ob_A x4 3]; exact hN, x5.trans h4, by rw [x6]; exact h2, x2.trans hc, ?_⟩
    show zI τ 15 5 < 0 ↔ ¬ True
    exact ⟨fun q => by omega, fun q => absurd trivial q⟩
  · have e0 : d.so n = 0 := by rw [← nn.1]; exact x0
    rw [if_neg (by rw [e0]; omega), if_pos e0]
    refine ⟨fun k k0 k1 => ?_, ?_, fun s s0 s1 => ?_, ?_, ?_⟩
    · rw [x5] at k1
      show zA τ 11 1 k = zu d.so n 1 k ∧ (zu d.so n 1 k = 1 ∨ zu d.so n 1 k = 2 → zA τ 11 2 k = zu d.sg n d.ns k) ∧ (zu d.so n 1 k = 1 → zA τ 11 3 k = zu d.al n a k)
      rw [x2, x3, x4]
      by_cases e : k = n
      · rw [e, pu_eq, pu_eq, pu_eq, pu_eq, pu_eq, pu_eq]
        exact ⟨rfl, fun _ => h4, fun _ => rfl⟩
      · rw [pu_ne e, pu_ne e, pu_ne e, pu_ne e, pu_ne e, pu_ne e]; exact hN k k0 k1
    · show zI τ 15 4 = d.ns + 1
      rw [x8, h4]
    · have s1' : s < d.ns + 1 := s1
      show zA τ 15 2 s = zu d.sn d.ns n s
      rw [x7, h4]
      by_cases e : s = d.ns
      · rw [e, pu_eq, pu_eq]
      · rw [pu_ne e, pu_ne e]; exact h2 s s0 (by omega)
    · show x = d.ns
      rw [x1, h4]
    · rw [x9]; exact h5
  · have e1 : d.so n = 1 := by rw [← nn.1]; exact x1
    rw [if_neg (by
      rintro (q | ⟨-, q⟩)
      · omega
      · exact q (by rw [← nn.2.2 e1]; exact x2)), if_neg (by omega)]
    rw [x3]
    refine ⟨hN, h4, h2, ?_, h5⟩
    show x = d.sg n
    rw [x4, nn.2.1 (Or.inl e1)]
theorem DXd.bd {σ τ : ZS} {d : YD} {c : Int} (h : DXd σ d c) (e : ob τ 11 = ob σ 11) (e4 : zI τ 15 4 = zI σ 15 4) (e2 : zA τ 15 2 = zA σ 15 2) (w : 0 ≤ zI τ 15 5) : DXd τ (yB d) c := by
  obtain ⟨hN, h4, h2, hc, h5⟩ := h
  refine ⟨by rw [ob_I e 5, ob_A e 1, ob_A e 2, ob_A e 3]; exact hN, e4.trans h4, by rw [e2]; exact h2, hc, ?_⟩
  show zI τ 15 5 < 0 ↔ ¬ True
  exact ⟨fun q => by omega, fun q => absurd trivial q⟩
theorem DXd.lab {σ τ : ZS} {d : YD} {n c : Int} (h : DXd σ d c) (hn : 0 ≤ n ∧ n < zI σ 11 5) (hx : xDc σ τ n 2 c) : DXd τ (yLab d n) c := by
  have h0 := h
  obtain ⟨hN, h4, h2, hc, h5⟩ := h
  have nn := hN n hn.1 hn.2
  obtain ⟨x4, x2, hx⟩ := hx
  rw [yLab_eq]
  rcases hx with ⟨y0, y1, y2, y3, y5, y6, y7⟩ | ⟨y0, y1, y2⟩
  · have e0 : d.so n = 0 := by rw [← nn.1]; exact y0
    rw [if_pos e0]
    refine ⟨fun k k0 k1 => ?_, x4.trans h4, by rw [x2]; exact h2, hc, by rw [y7]; exact h5⟩
    rw [y5] at k1
    show zA τ 11 1 k = zu d.so n 2 k ∧ (zu d.so n 2 k = 1 ∨ zu d.so n 2 k = 2 → zA τ 11 2 k = zu d.sg n d.cur k) ∧ (zu d.so n 2 k = 1 → zA τ 11 3 k = d.al k)
    rw [y1, y2, y3]
    by_cases e : k = n
    · rw [e, pu_eq, pu_eq, pu_eq, pu_eq]; exact ⟨rfl, fun _ => hc, fun q => absurd q (by decide)⟩
    · rw [pu_ne e, pu_ne e, pu_ne e, pu_ne e]; exact hN k k0 k1
  · rw [if_neg (by rw [← nn.1]; exact y0)]
    exact h0.bd y2 x4 x2 y1
theorem DXd.ext {σ τ : ZS} {d : YD} {n c : Int} (h : DXd σ d c) (hn : 0 ≤ n ∧ n < zI σ 11 5) (hx : xDc σ τ n 3 (-1)) : DXd τ (yExt d n) c := by
  have h0 := h
  obtain ⟨hN, h4, h2, hc, h5⟩ := h
  have nn := hN n hn.1 hn.2
  obtain ⟨x4, x2, hx⟩ := hx
  rw [yExt_eq]
  rcases hx with ⟨y0, y1, y2, y3, y5, y6, y7⟩ | ⟨y0, y1, y2⟩
  · have e0 : d.so n = 0 := by rw [← nn.1]; exact y0
    rw [if_pos e0]
    refine ⟨fun k k0 k1 => ?_, x4.trans h4, by rw [x2]; exact h2, hc, by rw [y7]; exact h5⟩
    rw [y5] at k1
    show zA τ 11 1 k = zu d.so n 3 k ∧ (zu d.so n 3 k = 1 ∨ zu d.so n 3 k = 2 → zA τ 11 2 k = d.sg k) ∧ (zu d.so n 3 k = 1 → zA τ 11 3 k = d.al k)
    rw [y1, y2, y3]
    by_cases e : k = n
    · rw [e, pu_eq, pu_eq, pu_eq]; exact ⟨rfl, fun q => by omega, fun q => absurd q (by decide)⟩
    · rw [pu_ne e, pu_ne e, pu_ne e]; exact hN k k0 k1
  · rw [if_neg (by rw [← nn.1]; exact y0)]
    exact h0.bd y2 x4 x2 y1
/-- which use an item is -/
def iK (t : Int) : Int := if t = 2 then 0 else if t = 7 ∨ t = 8 then 1 else if t = 9 ∨ t = 11 then 3 else if t = 10 then 2 else if t = 12 then 4 else -1
theorem yI_o {d : YD} {t v n : Int} (h0 : 0 ≤ t) (h1 : t ≤ 12) (n0 : t ≠ 0) (n1 : t ≠ 1) (n3 : t ≠ 3) : (yI d t v n).1 = d.1 ∧ (yI d t v n).2.1 = d.2.1 ∧ (yI d t v n).2.2.1 = d.2.2.1 := by
  have hc : t = 2 ∨ t = 4 ∨ t = 5 ∨ t = 6 ∨ t = 7 ∨ t = 8 ∨ t = 9 ∨ t = 10 ∨ t = 11 ∨ t = 12 := by omega
  rcases hc with rfl | rfl | rfl | rfl | rfl | rfl | rfl | rfl | rfl | rfl <;> exact ⟨rfl, rfl, rfl⟩
theorem DXd.w {τ : ZS} {d e : YD} {c : Int} (h : DXd τ d c) (k1 : e.1 = d.1) (k2 : e.2.1 = d.2.1) (k3 : e.2.2.1 = d.2.2.1) : DXd τ e c := by
  unfold DXd YD.so YD.sg YD.al YD.sn YD.ns YD.cur YD.bad at h ⊢
  rw [k1, k2, k3]; exact h
theorem yLab_u (d : YD) (n : Int) : (yLab d n).u = d.u ∧ (yLab d n).cur = d.cur := by
  rw [yLab_eq]
  split <;> exact ⟨rfl, rfl⟩
theorem yExt_u (d : YD) (n : Int) : (yExt d n).u = d.u ∧ (yExt d n).cur = d.cur := by
  rw [yExt_eq]
  split <;> exact ⟨rfl, rfl⟩
theorem ySeg_u (d : YD) (n a : Int) : (ySeg d n a).u = d.u := by
  rw [ySeg_eq]
  split
  · rfl
  · split <;> rfl
theorem yI_u {d : YD} {t v n : Int} (h0 : 0 ≤ t) (h1 : t ≤ 12) : (iK t < 0 → (yI d t v n).u = d.u) ∧ (0 ≤ iK t → (yI d t v n).u = uA d.u d.cur (iK t) n) ∧ (t ≠ 0 → (yI d t v n).cur = d.cur) := by
  have hc : t = 0 ∨ t = 1 ∨ t = 3 ∨ t = 2 ∨ t = 4 ∨ t = 5 ∨ t = 6 ∨ t = 7 ∨ t = 8 ∨ t = 9 ∨ t = 10 ∨ t = 11 ∨ t = 12 := by omega
  rcases hc with rfl | rfl | rfl | rfl | rfl | rfl | rfl | rfl | rfl | rfl | rfl | rfl | rfl
  · exact ⟨fun _ => ySeg_u d n v, fun q => absurd q (by decide), fun q => absurd rfl q⟩
  · exact ⟨fun _ => (yLab_u d n).1, fun q => absurd q (by decide), fun _ => (yLab_u d n).2⟩
  · exact ⟨fun _ => (yExt_u d n).1, fun q => absurd q (by decide), fun _ => (yExt_u d n).2⟩
  all_goals exact ⟨fun q => by first | rfl | exact absurd q (by decide), fun q => by first | rfl | exact absurd q (by decide), fun _ => rfl⟩
/-- a use that is right -/
def uOK (D : YD) (k n s : Int) : Prop := (k = 0 → D.so n = 2) ∧ (k = 1 → D.so n ≠ 0) ∧ (k = 2 → D.so n = 2 ∧ D.sg n = s) ∧ (k = 3 → (D.so n = 2 ∧ D.sg n = s) ∨ D.so n = 3) ∧ (k = 4 → 1 < D.so n)
theorem uOK_n (D : YD) {k n s : Int} (h : k < 0) : uOK D k n s := ⟨fun q => by omega, fun q => by omega, fun q => by omega, fun q => by omega, fun q => by omega⟩
theorem yF_ok {a b c : Int → Int} (D : YD) : ∀ k : Nat, (∀ j : Nat, j < k → 0 ≤ a j ∧ a j ≤ 12) → 0 ≤ (yF a b c k).u.nu ∧ ((∀ u : Int, 0 ≤ u → u < (yF a b c k).u.nu → uOK D ((yF a b c k).u.uk u) ((yF a b c k).u.un u) ((yF a b c k).u.us u)) ↔ (∀ j : Nat, j < k → uOK D (iK (a j)) (c j) (yF a b c (j + 1)).cur))
  | 0, _ => ⟨Int.le_refl 0, fun _ j hj => absurd hj (Nat.not_lt_zero j), fun _ u u0 u1 => by have u1' : u < 0 := u1; omega⟩
  | k + 1, ht => by
    obtain ⟨n0, ih⟩ := yF_ok D k (fun j hj => ht j (by omega))
    have hk := ht k (by omega)
    have e : yF a b c (k + 1) = yI (yF a b c k) (a k) (b k) (c k) := rfl
    have y := yI_u (d := yF a b c k) (t := a k) (v := b k) (n := c k) hk.1 hk.2
    by_cases q : iK (a k) < 0
    · have eu := y.1 q
      rw [← e] at eu
      rw [eu]
      refine ⟨n0, ih.trans ⟨fun hh j hj => ?_, fun hh j hj => hh j (by omega)⟩⟩
      by_cases ej : j = k
      · rw [ej]; exact uOK_n D q
      · exact hh j (by omega)
    · have eu := y.2.1 (by omega)
      have ec : (yF a b c (k + 1)).cur = (yF a b c k).cur := y.2.2 (fun z => q (by rw [z]; decide))
      rw [← e] at eu
      rw [eu]
      refine ⟨by show 0 ≤ (yF a b c k).u.nu + 1; omega, ⟨fun hh j hj => ?_, fun hh u u0 u1 => ?_⟩⟩
      · by_cases ej : j = k
        · have := hh (yF a b c k).u.nu n0 (show _ < (yF a b c k).u.nu + 1 by omega)
          have h2 : uOK D (zu (yF a b c k).u.uk (yF a b c k).u.nu (iK (a k)) (yF a b c k).u.nu) (zu (yF a b c k).u.un (yF a b c k).u.nu (c k) (yF a b c k).u.nu) (zu (yF a b c k).u.us (yF a b c k).u.nu (yF a b c k).cur (yF a b c k).u.nu) := this
          rw [pu_eq, pu_eq, pu_eq] at h2
          rw [ej, ec]; exact h2
        · refine ih.mp (fun u u0 u1 => ?_) j (by omega)
          have := hh u u0 (show u < (yF a b c k).u.nu + 1 by omega)
          have h2 : uOK D (zu (yF a b c k).u.uk (yF a b c k).u.nu (iK (a k)) u) (zu (yF a b c k).u.un (yF a b c k).u.nu (c k) u) (zu (yF a b c k).u.us (yF a b c k).u.nu (yF a b c k).cur u) := this
          rw [pu_ne (by omega), pu_ne (by omega), pu_ne (by omega)] at h2
          exact h2
      · have u1' : u < (yF a b c k).u.nu + 1 := u1
        show uOK D (zu (yF a b c k).u.uk (yF a b c k).u.nu (iK (a k)) u) (zu (yF a b c k).u.un (yF a b c k).u.nu (c k) u) (zu (yF a b c k).u.us (yF a b c k).u.nu (yF a b c k).cur u)
        by_cases ej : u = (yF a b c k).u.nu
        · rw [ej, pu_eq, pu_eq, pu_eq, ← ec]; exact hh k (by omega)
        · rw [pu_ne ej, pu_ne ej, pu_ne ej]
          exact ih.mpr (fun j hj => hh j (by omega)) u u0 (by omega)
