/-! L: all that is alike between calls -/
abbrev Ki1 : List Nat := [60, 62, 64, 65, 66]
abbrev Ki2 : List Nat := [61, 63]
abbrev Km1 : List Nat := [76, 77, 78]
abbrev Km2 : List Nat := [74, 75, 79]
theorem Kim.i1 {ρ τ : ZS} (h : Kim ρ τ) : ∀ f : Nat, f ∈ Ki1 → zI τ 0 f = zI ρ 0 f := fun f hf => h.1 f ((show ∀ k ∈ Ki1, k ∈ KIf by decide) f hf)
theorem Kim.i2 {ρ τ : ZS} (h : Kim ρ τ) : ∀ f : Nat, f ∈ Ki2 → zA τ 0 f = zA ρ 0 f := fun f hf => h.2 f ((show ∀ k ∈ Ki2, k ∈ KIa by decide) f hf)
theorem Kim.m1 {ρ τ : ZS} (h : Kim ρ τ) : ∀ f : Nat, f ∈ Km1 → zI τ 0 f = zI ρ 0 f := fun f hf => h.1 f ((show ∀ k ∈ Km1, k ∈ KIf by decide) f hf)
theorem Kim.m2 {ρ τ : ZS} (h : Kim ρ τ) : ∀ f : Nat, f ∈ Km2 → zA τ 0 f = zA ρ 0 f := fun f hf => h.2 f ((show ∀ k ∈ Km2, k ∈ KIa by decide) f hf)
def Ima (σ ρ : ZS) : Prop := zI σ 17 0 = zI ρ 0 60 ∧ zI σ 17 1 = zI ρ 0 62 ∧ (∀ j : Int, 0 ≤ j → j < 1200 → zA σ 17 2 j = zA ρ 0 61 j) ∧ zI σ 17 3 = zI ρ 0 64 ∧ (∀ i : Int, 0 ≤ i → i < zI ρ 0 64 → zA σ 17 4 i = zA ρ 0 63 i) ∧ zI σ 17 5 = zI ρ 0 65 ∧ zI σ 17 6 = zI ρ 0 66
theorem Ima.k {σ ρ τ υ : ZS} (h : Ima σ ρ) (e : ob τ 17 = ob σ 17) (r1 : ∀ f : Nat, f ∈ Ki1 → zI υ 0 f = zI ρ 0 f) (r2 : ∀ f : Nat, f ∈ Ki2 → zA υ 0 f = zA ρ 0 f) : Ima τ υ := by
  unfold Ima at h ⊢
  rw [ob_I e 0, ob_I e 1, ob_I e 3, ob_I e 5, ob_I e 6, ob_A e 2, ob_A e 4, r1 60 (by decide), r1 62 (by decide), r1 64 (by decide), r1 65 (by decide), r1 66 (by decide), r2 61 (by decide), r2 63 (by decide)]
  exact h
def Mca (σ ρ : ZS) : Prop := ∃ P : MV, HC σ P ∧ HRb ρ P ∧ P.ip = P.r 12 ∧ zI σ 18 7 = zI ρ 0 76 ∧ zI σ 18 8 = zI ρ 0 77
theorem Mca.k {σ ρ τ υ : ZS} (h : Mca σ ρ) (e : ob τ 18 = ob σ 18) (r1 : ∀ f : Nat, f ∈ Km1 → zI υ 0 f = zI ρ 0 f) (r2 : ∀ f : Nat, f ∈ Km2 → zA υ 0 f = zA ρ 0 f) : Mca τ υ := by
  obtain ⟨P, h1, h2, h3, h4, h5⟩ := h
  refine ⟨P, ?_, ?_, h3, ?_, ?_⟩
  · unfold HC at h1 ⊢
    rw [ob_A e 0, ob_A e 1, ob_A e 2, ob_A e 10, ob_I e 3, ob_I e 4, ob_I e 5, ob_I e 6, ob_I e 9]
    exact h1
  · unfold HRb at h2 ⊢
    rw [r2 74 (by decide), r2 75 (by decide), r2 79 (by decide), r1 78 (by decide)]
    exact h2
  · rw [ob_I e 7, r1 76 (by decide)]; exact h4
  · rw [ob_I e 8, r1 77 (by decide)]; exact h5
theorem FXa.k {σ τ : ZS} (h : FXa σ) (c : ∀ m : Int, 0 ≤ m → m ≤ 2 → ob τ m = ob σ m) : FXa τ := fun m m0 m2 n => (h m m0 m2 (fun z => n ((ob_I (c m m0 m2) 0).trans z))).k (c m m0 m2)
def Alk7 (σ ρ : ZS) : Prop := Alk σ ρ ∧ FXa σ ∧ Ima σ ρ ∧ Mca σ ρ
theorem Alk7.r {σ ρ υ : ZS} (h : Alk7 σ ρ) (f : fr [0] [] ρ υ) : Alk7 σ υ := ⟨h.1.k KC.rf f (by decide) (by decide) (by decide), h.2.1, h.2.2.1.k rfl (f.in (by decide)) (f.an (by decide)), h.2.2.2.k rfl (f.in (by decide)) (f.an (by decide))⟩
/-- how a call of the reference ends: cd what is thrown, w the answer, if c -/
def OO7 (W : (Int → ZS → Prop) → Prop) (τ : ZS) (cd w N : Int) (c : Prop) : Prop := ∀ Qr : Int → ZS → Prop, (∀ (r : Int) (ρ : ZS), RI ρ N → Alk7 τ ρ → (c → zI ρ 0 0 = cd ∧ (cd = 0 → r = w)) → Qr r ρ) → W Qr
/-! L: append, assemble, drop, code, fixup: all alike -/
theorem k7_append {σ ρ : ZS} {N : Int} (h : CI σ N) (hr : RI ρ N) (hl : Alk7 σ ρ) (hN : 0 ≤ N ∧ N ≤ 100000) {v n : Int} (hn : -2147483648 ≤ n ∧ n ≤ 2147483647) : wpX10_append v n σ (fun x τ => CI τ (N + 400) ∧ OO7 (wpX11_append v n ρ) τ 0 x (N + 400) True) (fun E τ => ((E = xIAE ∧ OO7 (wpX11_append v n ρ) τ 1 0 (N + 400) True) ∨ (E = xIOB ∧ OO7 (wpX11_append v n ρ) τ 2 0 (N + 400) True)) ∧ CI τ (N + 400)) := by
  have keep : ∀ (cd : Int) (υ : ZS), zI υ 0 2 = zI ρ 0 2 → zA υ 0 1 = zA ρ 0 1 → fr [0, 2] [1] ρ υ → Alk7 σ υ := fun cd υ e2 e1 f => ⟨⟨hl.1.1.k rfl rfl e2 e1, fun m m0 m2 => by rw [f.2 43 (by decide)]; exact hl.1.2.1 m m0 m2, fun m m0 m2 => (hl.1.2.2 m m0 m2).k rfl (fun k hk => f.2 k ((show ∀ k ∈ WB, k ∉ [1] by decide) k hk))⟩, hl.2.1, hl.2.2.1.k rfl (f.in (by decide)) (f.an (by decide)), hl.2.2.2.k rfl (f.in (by decide)) (f.an (by decide))⟩
  have hlen := hl.1.1.1
  refine c_append2 h hn (fun no => ⟨Or.inl ⟨rfl, fun Qr hq => ?_⟩, h.mo (by omega)⟩) (fun ok big => ⟨Or.inr ⟨rfl, fun Qr hq => ?_⟩, h.mo (by omega)⟩) (fun ok le τ ci e1 e0 km => ⟨ci.mo (by omega), fun Qr hq => ?_⟩)
  · refine e_append2 hr hn (fun _ υ u c0 c2 c1 f => hq 0 υ (u.mo (by omega)) (keep 1 υ c2 c1 f) (fun _ => ⟨c0, fun q => absurd q (by decide)⟩)) (fun q => absurd q no) (fun q => absurd q no)
  · refine e_append2 hr hn (fun q => absurd ok q) (fun _ _ υ u c0 c2 c1 f => hq 0 υ (u.mo (by omega)) (keep 2 υ c2 c1 f) (fun _ => ⟨c0, fun q => absurd q (by decide)⟩)) (fun _ q => absurd q (by omega))
  · refine e_append2 hr hn (fun q => absurd ok q) (fun _ q => absurd q (by omega)) (fun _ _ υ u c0 c2 c1 f => hq _ υ (u.mo (by omega)) ⟨⟨⟨by rw [e1, c2, hlen], fun j j0 j1 => ?_⟩, fun m m0 m2 => by rw [f.2 43 (by decide), ob_I (km m (n_1 (by omega))) 0]; exact hl.1.2.1 m m0 m2, fun m m0 m2 => (hl.1.2.2 m m0 m2).k (km m (n_1 (by omega))) (fun k hk => f.2 k ((show ∀ k ∈ WB, k ∉ [1] by decide) k hk))⟩, hl.2.1.k (fun m m0 m2 => km m (n_1 (by omega))), hl.2.2.1.k (km 17 (by decide)) (f.in (by decide)) (f.an (by decide)), hl.2.2.2.k (km 18 (by decide)) (f.in (by decide)) (f.an (by decide))⟩ (fun _ => ⟨c0, fun _ => by rw [hlen]⟩))
    rw [c1, e0, hlen]
    unfold apT
    by_cases q : zI ρ 0 2 ≤ j ∧ j < zI ρ 0 2 + n
    · rw [if_pos q, if_pos q]
    · rw [if_neg q, if_neg q]; exact hl.1.1.2 j j0 (by omega)
theorem k7_assemble {σ ρ : ZS} {N : Int} (h : CI σ N) (hr : RI ρ N) (hl : Alk7 σ ρ) (hN : 0 ≤ N ∧ N ≤ 100000) {a : Int} (ha : -2147483648 ≤ a ∧ a ≤ 2147483647) : wpX10_assemble a σ (fun x τ => CI τ (N + 400) ∧ OO7 (wpX11_assemble a ρ) τ 0 x (N + 400) True) (fun E τ => ((E = xIAE ∧ OO7 (wpX11_assemble a ρ) τ 1 0 (N + 400) True) ∨ (E = xUOE ∧ OO7 (wpX11_assemble a ρ) τ 2 0 (N + 400) True) ∨ (E = xNSE ∧ OO7 (wpX11_assemble a ρ) τ 3 0 (N + 400) True) ∨ (E = xIOB ∧ OO7 (wpX11_assemble a ρ) τ 4 0 (N + 400) True) ∨ (E = xARI ∧ OO7 (wpX11_assemble a ρ) τ 5 0 (N + 400) True)) ∧ CI τ (N + 400)) := by
  refine t_assemble5 h hr hl.1.1.1 hl.1.1.2 ha (fun x τ ci e1 e0 ao hA oth one fxm o17 => ⟨ci.mo (by omega), fun Qr hq => ao Qr (fun r υ u c2 c1 c0 cw ct kim => hq r υ (u.mo (by omega)) ⟨⟨?_, fun m m0 m2 => ?_, fun m m0 m2 => ?_⟩, fun m m0 m2 n0 => ?_, hl.2.2.1.k o17.1 kim.i1 kim.i2, hl.2.2.2.k o17.2 kim.m1 kim.m2⟩ (fun _ => ⟨c0, cw⟩))⟩) (fun s τ hs ci e1 e0 oth o17 => ⟨?_, ci.mo (by omega)⟩)
  · rw [if_pos hA] at e1 c2
    exact ⟨by rw [e1, c2], fun j j0 j1 => by omega⟩
  · rw [(ct.2 rfl).1]
    by_cases e : m = a
    · rw [e, one, pu_eq]
    · rw [pu_ne e, ob_I (oth m m0 m2 e) 0]; exact hl.1.2.1 m m0 m2
  · obtain ⟨-, oy, ml⟩ := ct.2 rfl
    by_cases e : m = a
    · rw [e]; exact ⟨fun q => absurd (one.symm.trans q) (by decide), fun _ => ml⟩
    · have mo := h.2.2.2.1 m m0 m2
      exact (hl.1.2.2 m m0 m2).o (oth m m0 m2 e) oy ⟨m0, m2⟩ hA e mo.2.1.2 mo.2.2.1.2 (hr.2.2.1.2 m m0 m2).1.2.2.2
  · by_cases e : m = a
    · rw [e]; exact fxm
    · exact (hl.2.1 m m0 m2 (fun z => n0 ((ob_I (oth m m0 m2 e) 0).trans z))).k (oth m m0 m2 e)
  · have key : ∀ cd : Int, cd ≠ 0 → AO5 ρ a cd 0 N (fun _ => True) → OO7 (wpX11_assemble a ρ) τ cd 0 (N + 400) True := by
      intro cd hcd ao Qr hq
      refine ao Qr (fun r υ u c2 c1 c0 cw ct kim => hq r υ (u.mo (by omega)) ⟨⟨?_, fun m m0 m2 => ?_, fun m m0 m2 => (hl.1.2.2 m m0 m2).k (oth m m0 m2) (fun f hf => ct.1 hcd f ((show ∀ k ∈ WB, k ∈ WA by decide) f hf))⟩, hl.2.1.k oth, hl.2.2.1.k o17.1 kim.i1 kim.i2, hl.2.2.2.k o17.2 kim.m1 kim.m2⟩ (fun _ => ⟨c0, cw⟩))
      · by_cases q : 0 ≤ a ∧ a ≤ 2
        · rw [if_pos q] at e1 c2
          exact ⟨by rw [e1, c2], fun j j0 j1 => by omega⟩
        · rw [if_neg q] at e1 c2
          exact hl.1.1.k e1 (e0 q) c2 c1
      · rw [ct.1 hcd 43 (by decide), ob_I (oth m m0 m2) 0]; exact hl.1.2.1 m m0 m2
    rcases hs with ⟨e, q⟩ | ⟨e, q⟩ | ⟨e, q⟩ | ⟨e, q⟩ | ⟨e, q⟩
    · exact Or.inl ⟨e, key 1 (by decide) q⟩
    · exact Or.inr (Or.inl ⟨e, key 2 (by decide) q⟩)
    · exact Or.inr (Or.inr (Or.inl ⟨e, key 3 (by decide) q⟩))
    · exact Or.inr (Or.inr (Or.inr (Or.inl ⟨e, key 4 (by decide) q⟩)))
    · exact Or.inr (Or.inr (Or.inr (Or.inr ⟨e, key 5 (by decide) q⟩)))
theorem k7_drop {σ ρ : ZS} {N : Int} (h : CI σ N) (hr : RI ρ N) (hl : Alk7 σ ρ) (hN : 0 ≤ N ∧ N ≤ 100000) {a : Int} (ha : -2147483648 ≤ a ∧ a ≤ 2147483647) : wpX10_drop a σ (fun x τ => CI τ (N + 400) ∧ OO7 (wpX11_drop a ρ) τ 0 x (N + 400) True ∧ (x = 0 ∨ x = 1)) (fun E τ => ((E = xIAE ∧ OO7 (wpX11_drop a ρ) τ 1 0 (N + 400) True)) ∧ CI τ (N + 400)) := by
  obtain ⟨r0, r1, r2, r3, r4, r5, r6⟩ := h
  unfold wpX10_drop
  refine c_isModule ha (fun a0 a2 => ⟨by decide, fun _ => ⟨by omega, c_mclear ⟨a0, a2⟩ (fun τ tm tk z0 z1 z7 z13 => ?_)⟩, fun q => absurd q (by decide)⟩) (fun no => ⟨by decide, fun q => absurd rfl q, fun _ => ⟨⟨rfl, fun Qr hq => ?_⟩, CI.mo ⟨r0, r1, r2, r3, r4, r5, r6⟩ (by omega)⟩⟩)
  rotate_left
  · have bad : wpX11_drop_14 (zsI ρ 0 0 0) Qr := hq 0 _ ((hr.read ((fr.rf.ti (by decide)).ti (by decide))).mo (by omega)) (hl.r ((fr.rf.ti (by decide)).ti (by decide))) (fun _ => ⟨zI_s, fun q => absurd q (by decide)⟩)
    unfold wpX11_drop
    exact ⟨ha, fun _ => bad, fun n1 => ⟨fun n2 => absurd ⟨by omega, n2⟩ no, fun _ => bad⟩⟩
  have na : ∀ g : Int, 3 ≤ g → g ∉ [a] := fun g hg => n_1 (by omega)
  have hv := (r3 a a0 a2).1
  refine ⟨hv, CI.mo (N := N) ⟨r0.k (tk 10 (na 10 (by decide))), r1.k (tk 11 (na 11 (by decide))), r2.k (tk 15 (na 15 (by decide))), fun m m0 m2 => ?_, r4.k (tk 16 (na 16 (by decide))), r5.k (tk 17 (na 17 (by decide))), r6.k (tk 18 (na 18 (by decide)))⟩ (by omega), fun Qr hq => ?_, by omega⟩
  · by_cases e : m = a
    · rw [e]; exact tm
    · exact (r3 m m0 m2).k (tk m (n_1 e))
  · have ea := hl.1.2.1 a a0 a2
    refine i_drop2 hr ⟨a0, a2⟩ (fun υ u c0 c2 c1 c43 f => hq _ υ (u.mo (by omega)) ⟨⟨hl.1.1.k (tk.I (na 10 (by decide)) 1) (tk.A (na 10 (by decide)) 0) c2 c1, fun m m0 m2 => ?_, fun m m0 m2 => ?_⟩, fun m m0 m2 n0 => ?_, hl.2.2.1.k (tk 17 (na 17 (by decide))) (f.in (by decide)) (f.an (by decide)), hl.2.2.2.k (tk 18 (na 18 (by decide))) (f.in (by decide)) (f.an (by decide))⟩ (fun _ => ⟨c0, fun _ => ea.symm⟩))
    · rw [c43]
      by_cases e : m = a
      · rw [e, z0, pu_eq]
      · rw [pu_ne e, ob_I (tk m (n_1 e)) 0]; exact hl.1.2.1 m m0 m2
    · by_cases e : m = a
      · rw [e]; exact ⟨fun _ => ⟨z1, z7, z13⟩, fun q => absurd z0 q⟩
      · exact (hl.1.2.2 m m0 m2).k (tk m (n_1 e)) (fun k hk => f.2 k ((show ∀ k ∈ WB, k ∉ [43] by decide) k hk))
    · by_cases e : m = a
      · rw [e] at n0; exact absurd z0 n0
      · exact (hl.2.1 m m0 m2 (fun z => n0 ((ob_I (tk m (n_1 e)) 0).trans z))).k (tk m (n_1 e))
theorem k7_code {σ ρ : ZS} {N : Int} (h : CI σ N) (hr : RI ρ N) (hl : Alk7 σ ρ) (hN : 0 ≤ N ∧ N ≤ 100000) {a b c : Int} (ha : -2147483648 ≤ a ∧ a ≤ 2147483647) (hb : -2147483648 ≤ b ∧ b ≤ 2147483647) (hc : -2147483648 ≤ c ∧ c ≤ 2147483647) : wpX10_code a b c σ (fun x τ => CI τ (N + 400) ∧ OO7 (wpX11_code a b c ρ) τ 0 x (N + 400) True) (fun E τ => ((E = xIOB ∧ OO7 (wpX11_code a b c ρ) τ 1 0 (N + 400) True)) ∧ CI τ (N + 400)) := by
  obtain ⟨h1, h2, h3, h4, h5⟩ := id hr
  have g43 : (0 ≤ a ∧ a ≤ 2) → 0 ≤ zA ρ 0 43 a ∧ zA ρ 0 43 a ≤ 1 := fun q => h3.1.2.2.2.2 a (by omega) (by omega)
  have mi : (0 ≤ a ∧ a ≤ 2) → MI ρ a := fun q => h3.2 a q.1 q.2
  have al : ∀ (υ : ZS), fr [0] [] ρ υ → Alk7 σ υ := fun υ f => hl.r f
  have bad : ¬ ((0 ≤ a ∧ a ≤ 2) ∧ zA ρ 0 43 a ≠ 0 ∧ (0 ≤ b ∧ b < zA ρ 0 44 a) ∧ (0 ≤ c ∧ c < zA ρ 0 48 (24 * a + b))) → OO7 (wpX11_code a b c ρ) σ 1 0 (N + 400) True := by
    intro no Qr hq
    have f : fr [0] [] ρ (zsI (zsI ρ 0 0 0) 0 0 1) := (fr.rf.ti (by decide)).ti (by decide)
    have R : wpX11_raise 1 (zsI ρ 0 0 0) (fun (x1 : Int) (σ2 : ZS) => Qr x1 σ2) := hq 0 _ ((hr.read f).mo (by omega)) (al _ f) (fun _ => ⟨zI_s, fun q => absurd q (by decide)⟩)
    unfold wpX11_code wpX11_code_37 wpX11_code_66
    by_cases hA : 0 ≤ a ∧ a ≤ 2
    · have g := g43 hA
      have M := mi hA
      have M1 := M.1.1
      refine ⟨ha, fun q => absurd q (by omega), fun _ => ⟨fun q => absurd q (by omega), fun _ => ⟨by omega, by omega, fun _ => R, fun n43 => ⟨hb, fun _ => R, fun b0 => ⟨by omega, fun lt => ⟨hc, fun _ => R, fun c0 => ?_⟩, fun _ => R⟩⟩⟩⟩⟩
      have sg := M.2.1 b (by omega) lt
      exact ⟨by omega, by omega, fun lt2 => absurd ⟨hA, n43, ⟨by omega, lt⟩, by omega, lt2⟩ no, fun _ => R⟩
    · exact ⟨ha, fun _ => R, fun n => ⟨fun _ => R, fun q => absurd ⟨by omega, by omega⟩ hA⟩⟩
  unfold wpX10_code wpX10_code_38 wpX10_code_63
  refine c_isModule ha (fun a0 a2 => ⟨by decide, fun _ => ?_, fun q => absurd q (by decide)⟩) (fun no => ⟨by decide, fun q => absurd rfl q, fun _ => ⟨⟨rfl, bad (fun q => no q.1)⟩, h.mo (by omega)⟩⟩)
  have m := h.2.2.2.1 a a0 a2
  have m1 := m.2.1
  have e0 := hl.1.2.1 a a0 a2
  obtain ⟨l0, l1⟩ := hl.1.2.2 a a0 a2
  have B : ∀ p : ¬ ((0 ≤ a ∧ a ≤ 2) ∧ zA ρ 0 43 a ≠ 0 ∧ (0 ≤ b ∧ b < zA ρ 0 44 a) ∧ (0 ≤ c ∧ c < zA ρ 0 48 (24 * a + b))), ((xIOB = xIOB ∧ OO7 (wpX11_code a b c ρ) σ 1 0 (N + 400) True)) ∧ CI σ (N + 400) := fun p => ⟨⟨rfl, bad p⟩, h.mo (by omega)⟩
  refine ⟨by omega, hb, fun q => B (fun w => by omega), fun nb => ⟨by omega, fun lt => ⟨hc, fun q => B (fun w => by omega), fun nc => ?_⟩, fun ge => B (fun w => ?_)⟩⟩
  rotate_left
  · by_cases z : zI σ a 0 = 0
    · exact w.2.1 (by omega)
    · have := (l1 z).1.1
      omega
  have t0 : zI σ a 0 ≠ 0 := fun z => by have := (l0 z).1; omega
  obtain ⟨⟨x1, x2⟩, x3, -, -⟩ := l1 t0
  have sg := x2 b (by omega) lt
  have s := m.2.2.2.2.1 b (by omega) lt
  refine ⟨by omega, by omega, fun lt2 => ⟨by omega, h.mo (by omega), fun Qr hq => ?_⟩, fun ge => B (fun w => by omega)⟩
  have f : fr [0] [] ρ (zsI ρ 0 0 0) := fr.rf.ti (by decide)
  have v := x3 (zA σ a 5 b + c) (by omega) (by omega)
  have hA : 0 ≤ a ∧ a ≤ 2 := ⟨a0, a2⟩
  have g := g43 hA
  have M1 := (mi hA).1.1
  unfold wpX11_code
  refine ⟨ha, fun q => absurd q (by omega), fun _ => ⟨fun q => absurd q (by omega), fun _ => ⟨by omega, by omega, fun q => absurd q (by omega), fun n43 => ⟨hb, fun q => absurd q (by omega), fun _ => ⟨by omega, fun _ => ⟨hc, fun q => absurd q (by omega), fun _ => ⟨by omega, by omega, fun _ => ⟨by omega, ?_⟩, fun q => absurd q (by omega)⟩⟩, fun q => absurd q (by omega)⟩⟩⟩⟩⟩
  refine hq _ _ ((hr.read f).mo (by omega)) (al _ f) (fun _ => ⟨zI_s, fun _ => ?_⟩)
  rw [← v, sg.2.1, show 400 * a + zA σ a 5 b + c = 400 * a + (zA σ a 5 b + c) by omega]
theorem k7_fixup {σ ρ : ZS} {N : Int} (h : CI σ N) (hr : RI ρ N) (hl : Alk7 σ ρ) (hN : 0 ≤ N ∧ N ≤ 100000) {a b c : Int} (ha : -2147483648 ≤ a ∧ a ≤ 2147483647) (hb : -2147483648 ≤ b ∧ b ≤ 2147483647) (hc : -2147483648 ≤ c ∧ c ≤ 2147483647) : wpX10_fixup a b c σ (fun x τ => CI τ (N + 400) ∧ OO7 (wpX11_fixup a b c ρ) τ 0 x (N + 400) True) (fun E τ => ((E = xIAE ∧ OO7 (wpX11_fixup a b c ρ) τ 1 0 (N + 400) True) ∨ (E = xIOB ∧ OO7 (wpX11_fixup a b c ρ) τ 2 0 (N + 400) True)) ∧ CI τ (N + 400)) := by
  obtain ⟨h1, h2, h3, h4, h5⟩ := id hr
  have g43 : (0 ≤ a ∧ a ≤ 2) → 0 ≤ zA ρ 0 43 a ∧ zA ρ 0 43 a ≤ 1 := fun q => h3.1.2.2.2.2 a (by omega) (by omega)
  have mi : (0 ≤ a ∧ a ≤ 2) → MI ρ a := fun q => h3.2 a q.1 q.2
  have al : ∀ (υ : ZS), fr [0] [] ρ υ → Alk7 σ υ := fun υ f => hl.r f
  have Rk : ∀ (k : Int) (Qr : Int → ZS → Prop), (∀ (r : Int) (υ : ZS), RI υ (N + 400) → Alk7 σ υ → (True → zI υ 0 0 = k ∧ (k = 0 → r = 0)) → Qr r υ) → k ≠ 0 → wpX11_raise k (zsI ρ 0 0 0) (fun (x1 : Int) (σ2 : ZS) => Qr x1 σ2) := by
    intro k Qr hq hk
    have f : fr [0] [] ρ (zsI (zsI ρ 0 0 0) 0 0 k) := (fr.rf.ti (by decide)).ti (by decide)
    exact hq 0 _ ((hr.read f).mo (by omega)) (al _ f) (fun _ => ⟨zI_s, fun q => absurd q hk⟩)
  have bad1 : ¬ (0 ≤ c ∧ c ≤ 3) → OO7 (wpX11_fixup a b c ρ) σ 1 0 (N + 400) True := by
    intro no Qr hq
    have R := Rk 1 Qr hq (by decide)
    unfold wpX11_fixup wpX11_fixup_14
    exact ⟨hc, fun _ => R, fun n => ⟨fun q => absurd ⟨by omega, q⟩ no, fun _ => R⟩⟩
  have bad2 : (0 ≤ c ∧ c ≤ 3) → ¬ ((0 ≤ a ∧ a ≤ 2) ∧ zA ρ 0 43 a ≠ 0 ∧ (0 ≤ b ∧ b < zA ρ 0 50 a)) → OO7 (wpX11_fixup a b c ρ) σ 2 0 (N + 400) True := by
    intro hC no Qr hq
    have R := Rk 2 Qr hq (by decide)
    unfold wpX11_fixup wpX11_fixup_52
    refine ⟨hc, fun q => absurd q (by omega), fun _ => ⟨fun _ => ⟨ha, fun _ => R, fun na => ⟨fun _ => R, fun na2 => ?_⟩⟩, fun q => absurd hC.2 q⟩⟩
    have hA : 0 ≤ a ∧ a ≤ 2 := ⟨by omega, by omega⟩
    have g := g43 hA
    have M2 := (mi hA).1.2.1
    exact ⟨by omega, by omega, fun _ => R, fun n43 => ⟨hb, fun _ => R, fun b0 => ⟨by omega, fun lt => absurd ⟨hA, n43, by omega, lt⟩ no, fun _ => R⟩⟩⟩
  unfold wpX10_fixup wpX10_fixup_57 wpX10_fixup_9
  have B1 : ∀ p : ¬ (0 ≤ c ∧ c ≤ 3), ((xIAE = xIAE ∧ OO7 (wpX11_fixup a b c ρ) σ 1 0 (N + 400) True) ∨ (xIAE = xIOB ∧ OO7 (wpX11_fixup a b c ρ) σ 2 0 (N + 400) True)) ∧ CI σ (N + 400) := fun p => ⟨Or.inl ⟨rfl, bad1 p⟩, h.mo (by omega)⟩
  refine ⟨hc, fun q => B1 (by omega), fun c0 => ⟨fun c3 => ?_, fun q => B1 (by omega)⟩⟩
  have hC : 0 ≤ c ∧ c ≤ 3 := ⟨by omega, c3⟩
  have B2 : ∀ p : ¬ ((0 ≤ a ∧ a ≤ 2) ∧ zA ρ 0 43 a ≠ 0 ∧ (0 ≤ b ∧ b < zA ρ 0 50 a)), ((xIOB = xIAE ∧ OO7 (wpX11_fixup a b c ρ) σ 1 0 (N + 400) True) ∨ (xIOB = xIOB ∧ OO7 (wpX11_fixup a b c ρ) σ 2 0 (N + 400) True)) ∧ CI σ (N + 400) := fun p => ⟨Or.inr ⟨rfl, bad2 hC p⟩, h.mo (by omega)⟩
  refine c_isModule ha (fun a0 a2 => ⟨by decide, fun _ => ?_, fun q => absurd q (by decide)⟩) (fun no => ⟨by decide, fun q => absurd rfl q, fun _ => B2 (fun q => no q.1)⟩)
  have m := h.2.2.2.1 a a0 a2
  have m7 := m.2.2.1
  have e0 := hl.1.2.1 a a0 a2
  obtain ⟨l0, l1⟩ := hl.1.2.2 a a0 a2
  refine ⟨by omega, hb, fun q => B2 (fun w => by omega), fun b0 => ⟨by omega, fun lt => ?_, fun ge => B2 (fun w => ?_)⟩⟩
  rotate_left
  · by_cases z : zI σ a 0 = 0
    · exact w.2.1 (by omega)
    · have := (l1 z).2.2.1.1
      omega
  have t0 : zI σ a 0 ≠ 0 := fun z => by have := (l0 z).2.1; omega
  obtain ⟨-, -, ⟨x1, x2⟩, -⟩ := l1 t0
  obtain ⟨y1, y2, y3, y4, -⟩ := x2 b (by omega) lt
  have hA : 0 ≤ a ∧ a ≤ 2 := ⟨a0, a2⟩
  have g := g43 hA
  have M2 := (mi hA).1.2.1
  have good : ∀ x : Int, (c = 0 → zA ρ 0 51 (200 * a + b) = x) → (c = 1 → zA ρ 0 52 (200 * a + b) = x) → (c = 2 → zA ρ 0 53 (200 * a + b) = x) → (c = 3 → zA ρ 0 54 (200 * a + b) = x) → CI σ (N + 400) ∧ OO7 (wpX11_fixup a b c ρ) σ 0 x (N + 400) True := by
    intro x v0 v1 v2 v3
    refine ⟨h.mo (by omega), fun Qr hq => ?_⟩
    have f : fr [0] [] ρ (zsI ρ 0 0 0) := fr.rf.ti (by decide)
    have G : ∀ r : Int, r = x → Qr r (zsI ρ 0 0 0) := fun r e => hq r _ ((hr.read f).mo (by omega)) (al _ f) (fun _ => ⟨zI_s, fun _ => e⟩)
    unfold wpX11_fixup wpX11_fixup_118
    refine ⟨hc, fun q => absurd q (by omega), fun _ => ⟨fun _ => ⟨ha, fun q => absurd q (by omega), fun _ => ⟨fun q => absurd q (by omega), fun _ => ⟨by omega, by omega, fun q => absurd q (by omega), fun _ => ⟨hb, fun q => absurd q (by omega), fun _ => ⟨by omega, fun _ => ⟨fun n0 => ⟨fun n1 => ⟨fun n2 => ⟨by omega, G _ (v3 (by omega))⟩, fun e2 => ⟨by omega, G _ (v2 e2)⟩⟩, fun e1 => ⟨by omega, G _ (v1 e1)⟩⟩, fun e0 => ⟨by omega, G _ (v0 e0)⟩⟩, fun q => absurd q (by omega)⟩⟩⟩⟩⟩, fun q => absurd c3 q⟩⟩
  exact ⟨fun e => ⟨by omega, good _ (fun _ => y1) (fun q => by omega) (fun q => by omega) (fun q => by omega)⟩, fun n0 => ⟨fun e => ⟨by omega, good _ (fun q => by omega) (fun _ => y2) (fun q => by omega) (fun q => by omega)⟩, fun n1 => ⟨fun e => ⟨by omega, good _ (fun q => by omega) (fun q => by omega) (fun _ => y3) (fun q => by omega)⟩, fun n2 => ⟨by omega, good _ (fun q => by omega) (fun q => by omega) (fun q => by omega) (fun _ => y4)⟩⟩⟩⟩
/-! L: link, load, run, image, memory, register, trace: all alike -/
theorem k7_link {σ ρ : ZS} {N : Int} (h : CI σ N) (hr : RI ρ N) (hl : Alk7 σ ρ) (hN : 0 ≤ N ∧ N ≤ 100000) : wpX10_link σ (fun x τ => CI τ (N + 400) ∧ OO7 (wpX11_link ρ) τ 0 x (N + 400) True) (fun E τ => ((E = xISE ∧ OO7 (wpX11_link ρ) τ 1 0 (N + 400) True) ∨ (E = xUOE ∧ OO7 (wpX11_link ρ) τ 2 0 (N + 400) True) ∨ (E = xNSE ∧ OO7 (wpX11_link ρ) τ 3 0 (N + 400) True) ∨ (E = xIOB ∧ OO7 (wpX11_link ρ) τ 4 0 (N + 400) True) ∨ (E = xARI ∧ OO7 (wpX11_link ρ) τ 5 0 (N + 400) True)) ∧ CI τ (N + 400)) := by
  obtain ⟨h1, h2, h3, h4, h5⟩ := id hr
  have hm : M3 σ := h.2.2.2.1
  have ha := hl.1
  have hq := QM_of h3 ha
  obtain ⟨V, sim⟩ := comb_sim hm ha
  have es : LE (cAl (wC σ) (aC σ) (sC σ) (fun m => zI σ m 1) 3) = LE (cAl (zA ρ 0 45) (zA ρ 0 46) (zA ρ 0 48) (cR ρ) 3) := by
    unfold LE; rw [sim.1.1, sim.2.1]
  have th : ∀ m : Int, 0 ≤ m → m ≤ 2 → zI σ m 0 = 0 → zI σ m 7 = 0 := fun m m0 m2 z => ((ha.2.2 m m0 m2).1 z).2.1
  have sep := sep_of hm
  have ref : ∀ (cq rq : Int) (τ : ZS), KC σ τ → LQ σ (cAl (wC σ) (aC σ) (sC σ) (fun m => zI σ m 1) 3) cq rq → ob τ 18 = ob σ 18 → (cq ≠ 0 → ob τ 17 = ob σ 17) → (cq = 0 → zI τ 17 0 = 1 ∧ zI τ 17 1 = rq ∧ IHc τ (ifA (qdT σ (cAl (wC σ) (aC σ) (sC σ) (fun m => zI σ m 1) 3)) (qdV σ (cAl (wC σ) (aC σ) (sC σ) (fun m => zI σ m 1) 3)) (qdK σ) (fun m => zI σ m 7) (icA (qdL (cAl (wC σ) (aC σ) (sC σ) (fun m => zI σ m 1) 3)) (sC σ) (qdS σ) (fun m => zI σ m 1) 3, 0, fun _ => 0) 3) ∧ zI τ 17 5 = plC (cAl (wC σ) (aC σ) (sC σ) (fun m => zI σ m 1) 3) (CbS.wh (cAl (wC σ) (aC σ) (sC σ) (fun m => zI σ m 1) 3) (qdP σ 230192366)) / 16 ∧ zI τ 17 6 = qdO σ (cAl (wC σ) (aC σ) (sC σ) (fun m => zI σ m 1) 3) 230192366) → OO7 (wpX11_link ρ) τ cq rq (N + 400) True := by
    intro cq rq τ kc lq o18 o17 im Qr hq'
    refine y_link7 h3 h4 (fun m k mb mt kb y => ?_) (fun nt => hu_r ha ((NT_iff ha).mpr nt)) (fun ntr _ β aw rh h70 => YD_of hm h3 ha (hu_1 ha ((NT_iff ha).mpr ntr)) sim.1.1 sim.2.1 sim.2.2.1 sim.2.2.2.1 aw rh h70 sep) (hz_of hm hq hl.2.1 th sep) (fun cd r υ ig f _ z lo kb ki => ?_)
    · have t0 : zI σ m 0 ≠ 0 := by rw [ha.2.1 m mb.1 mb.2]; exact mt
      obtain ⟨-, -, ⟨x1, x2⟩, -, -, -, x3⟩ := (ha.2.2 m mb.1 mb.2).2 t0
      obtain ⟨y1, -, -, y4, -⟩ := x2 k kb.1 (by omega)
      rw [y4]; exact x3 k kb.1 (by omega) (by rw [← y1]; exact y)
    · have e := LQ_LO hm h3 ha sim.2.2.1 es lq lo
      refine hq' r υ (RI.mo (N := N) ⟨h1.same (f.in (by decide)) (f.an (by decide)), h2.up (f.2 16 (by decide)), h3.up (f.an (by decide)), ig, h5.same (f.in (by decide)) (f.an (by decide))⟩ (by omega)) ⟨ha.k kc f (by decide) (by decide) (by decide), hl.2.1.k kc.2, ?_, hl.2.2.2.k o18 (f.in (by decide)) (f.an (by decide))⟩ (fun _ => ⟨z.trans e.1, e.2⟩)
      by_cases c0 : cq = 0
      · obtain ⟨i1, i2, i3, i4, i5⟩ := im c0
        obtain ⟨j1, j2, j3, j4, j5⟩ := ki (e.1.trans c0)
        have er := e.2 c0
        refine ⟨by rw [i1, j1], by rw [i2, j2, er], fun j x0 x1 => by rw [i3.1 j x0 x1, j3.1 j x0 x1], by rw [i3.2.1, j3.2.1], fun i x0 x1 => ?_, by rw [i4, j4], by rw [i5, j5]⟩
        rw [j3.2.1] at x1
        rw [i3.2.2 i x0 x1, j3.2.2 i x0 x1]
      · have kim := kb (fun q => c0 (e.1.symm.trans q))
        exact hl.2.2.1.k (o17 c0) kim.i1 kim.i2
  refine x_link7 h hq (hu_1 ha) (fun x τ ci kc lq o18 i0 i1 iB i5 i6 => ⟨ci.mo (by omega), ref 0 x τ kc lq o18 (fun q => absurd rfl q) (fun _ => ⟨i0, i1, iB, i5, i6⟩)⟩) (fun s τ hs ci kc o => ⟨?_, ci.mo (by omega)⟩)
  rcases hs with ⟨e, q⟩ | ⟨e, q⟩ | ⟨e, q⟩ | ⟨e, q⟩ | ⟨e, q⟩
  · exact Or.inl ⟨e, ref 1 0 τ kc q o.2 (fun _ => o.1) (fun z => absurd z (by decide))⟩
  · exact Or.inr (Or.inl ⟨e, ref 2 0 τ kc q o.2 (fun _ => o.1) (fun z => absurd z (by decide))⟩)
  · exact Or.inr (Or.inr (Or.inl ⟨e, ref 3 0 τ kc q o.2 (fun _ => o.1) (fun z => absurd z (by decide))⟩))
  · exact Or.inr (Or.inr (Or.inr (Or.inl ⟨e, ref 4 0 τ kc q o.2 (fun _ => o.1) (fun z => absurd z (by decide))⟩)))
  · exact Or.inr (Or.inr (Or.inr (Or.inr ⟨e, ref 5 0 τ kc q o.2 (fun _ => o.1) (fun z => absurd z (by decide))⟩)))
theorem k7_load {σ ρ : ZS} {N : Int} (h : CI σ N) (hr : RI ρ N) (hl : Alk7 σ ρ) (hN : 0 ≤ N ∧ N ≤ 100000) {a : Int} (ha : -2147483648 ≤ a ∧ a ≤ 2147483647) : wpX10_load a σ (fun x τ => CI τ (N + 400) ∧ OO7 (wpX11_load a ρ) τ 0 x (N + 400) True) (fun E τ => ((E = xIAE ∧ OO7 (wpX11_load a ρ) τ 1 0 (N + 400) True) ∨ (E = xISE ∧ OO7 (wpX11_load a ρ) τ 2 0 (N + 400) True)) ∧ CI τ (N + 400)) := by
  obtain ⟨h1, h2, h3, h4, h5⟩ := id hr
  obtain ⟨hal, hfx, him, hmc⟩ := id hl
  have i0 := h.2.2.2.2.2.1.1
  have e60 := him.1
  have ri : ∀ υ : ZS, MM υ N → fr LF LR ρ υ → RI υ (N + 400) := fun υ g f => RI.mo (N := N) ⟨h1.same (f.in (by decide)) (f.an (by decide)), h2.up (f.2 16 (by decide)), h3.up (f.an (by decide)), h4.same (f.in (by decide)) (f.an (by decide)), g⟩ (by omega)
  have bad : ∀ r : Int, ((r = 1 ∧ ¬ (0 ≤ a ∧ a ≤ 255)) ∨ (r = 2 ∧ (0 ≤ a ∧ a ≤ 255) ∧ zI ρ 0 60 = 0)) → OO7 (wpX11_load a ρ) σ r 0 (N + 400) True := by
    intro r hR Qr hq
    refine y_load h4 h5 hN.1 ha (fun r' hR' υ g f z => hq 0 υ (ri υ g (f.up (by decide) (by decide))) (hl.r f) (fun _ => ⟨z.trans ?_, fun _ => rfl⟩)) (fun hA n60 => absurd hR (by omega))
    omega
  unfold wpX10_load wpX10_load_11
  refine ⟨ha, fun q => ⟨Or.inl ⟨rfl, bad 1 (Or.inl ⟨rfl, by omega⟩)⟩, h.mo (by omega)⟩, fun n0 => ⟨fun le => ⟨by omega, fun n17 => ?_, fun z => ⟨Or.inr ⟨rfl, bad 2 (Or.inr ⟨rfl, by omega, by omega⟩)⟩, h.mo (by omega)⟩⟩, fun gt => ⟨Or.inl ⟨rfl, bad 1 (Or.inl ⟨rfl, by omega⟩)⟩, h.mo (by omega)⟩⟩⟩
  have emem : rMm (zA σ 17 4) a (lMm (zA σ 17 2) a (zI σ 17 1).toNat) (zI σ 17 3).toNat = rMm (zA ρ 0 63) a (lMm (zA ρ 0 61) a (zI ρ 0 62).toNat) (zI ρ 0 64).toNat := by
    obtain ⟨-, i1, i2, i3, i4, -⟩ := him
    have b62 := h4.2.1
    have b64 := h4.2.2.1
    rw [i1, i3, lMm_cg (g := zA σ 17 2) (g' := zA ρ 0 61) (zI ρ 0 62).toNat (fun i x0 x1 => i2 i x0 (by omega)), rMm_cg (r := zA σ 17 4) (r' := zA ρ 0 63) (zI ρ 0 64).toNat (fun i x0 x1 => i4 i x0 (by omega))]
  obtain ⟨i5, i6⟩ := him.2.2.2.2.2
  refine x_start h.2.2.2.2.2.2 hN.1 h.2.2.2.2.2.1 (by omega) (fun τ g m0 r0 s0 p0 f0 => ?_)
  refine ⟨(h.m g).1.mo (by omega), fun Qr hq => ?_⟩
  refine y_load h4 h5 hN.1 ha (fun r hR => absurd hR (by omega)) (fun hA n60 υ mm f z v74 v75 v7 => hq _ υ (ri υ mm f) ⟨hal.k (KC.m g.2) f (by decide) (by decide) (by decide), hfx.k (KC.m g.2).2, him.k (g.2 17 (by decide)) (f.in (by decide)) (f.an (by decide)), ?_⟩ (fun _ => ⟨z, fun _ => ?_⟩))
  · obtain ⟨P, hP, hR, -⟩ := hmc
    refine ⟨(zA υ 0 74, zA υ 0 75, zI ρ 0 66, P.t, 0), ⟨fun j j0 j1 => ?_, fun j j0 j1 => ?_, fun j j0 j1 => ?_, ?_, ?_, ?_, ?_, ?_, fun j j0 j1 => ?_⟩, ⟨fun _ _ _ => rfl, fun _ _ _ => rfl, v7.2.2, fun j j0 j1 => ?_⟩, ?_, ?_, ?_⟩
    · show zA τ 18 0 j = zA υ 0 74 j
      rw [m0 j j0 j1, v74 j j0 j1, emem]
    · show zA τ 18 1 j = zA υ 0 75 j
      rw [r0 j j0 j1, v75 j j0 (by omega), if_neg (by omega), if_neg (by omega), if_neg (by omega)]
    · show zA τ 18 2 j = zA υ 0 75 (8 + j)
      rw [s0 j j0 j1, v75 (8 + j) (by omega) (by omega), if_neg (by omega : ¬ 8 + j = 12)]
      by_cases e : j = 1
      · rw [if_pos e, if_pos (by omega), i5]
      · rw [if_neg e, if_neg (by omega), if_pos (by omega)]
    · show zI τ 18 3 = zI ρ 0 66
      rw [p0]; exact i6
    · show zI τ 18 4 = zA υ 0 75 13
      rw [f0.1, v75 13 (by decide) (by decide), if_neg (by decide), if_neg (by decide), if_neg (by decide)]
    · show zI τ 18 5 = zA υ 0 75 14
      rw [f0.2.1, v75 14 (by decide) (by decide), if_neg (by decide), if_neg (by decide), if_neg (by decide)]
    · show zI τ 18 6 = zA υ 0 75 15
      rw [f0.2.2.1, v75 15 (by decide) (by decide), if_neg (by decide), if_neg (by decide), if_neg (by decide)]
    · exact f0.2.2.2.2.2.1
    · show zA τ 18 10 j = P.t j
      rw [f0.2.2.2.2.2.2]; exact hP.2.2.2.2.2.2.2.2 j j0 j1
    · show zA υ 0 79 j = P.t j
      rw [f.2 79 (by decide)]; exact hR.2.2.2 j j0 j1
    · show zI ρ 0 66 = zA υ 0 75 12
      rw [v75 12 (by decide) (by decide), if_pos rfl]
    · rw [f0.2.2.2.1, v7.1]
    · rw [f0.2.2.2.2.1, v7.2.1]
  · rw [p0]; exact i6.symm
theorem k7_run {σ ρ : ZS} {N : Int} (h : CI σ N) (hr : RI ρ N) (hl : Alk7 σ ρ) (hN : 0 ≤ N ∧ N ≤ 100000) {a : Int} (ha : -2147483648 ≤ a ∧ a ≤ 2147483647) : wpX10_run a σ (fun x τ => CI τ (N + 400) ∧ OO7 (wpX11_run a ρ) τ 0 x (N + 400) True) (fun E τ => ((E = xIAE ∧ OO7 (wpX11_run a ρ) τ 1 0 (N + 400) True) ∨ (E = xISE ∧ OO7 (wpX11_run a ρ) τ 2 0 (N + 400) True)) ∧ CI τ (N + 400)) := by
  obtain ⟨h1, h2, h3, h4, h5⟩ := id hr
  obtain ⟨hal, hfx, him, P, hP, hR, hi, e7, e8⟩ := id hl
  have hcm := h.2.2.2.2.2.2
  obtain ⟨b1, b2, b3, b4, b5, b6, b7, b8, b9, b10, b11⟩ := id hcm
  obtain ⟨d1, d2, d3, d4, d5, d6, d7, d8, d9, d10⟩ := id h5
  have bad : ∀ r : Int, ((r = 1 ∧ ¬ (1 ≤ a ∧ a ≤ 400)) ∨ (r = 2 ∧ (1 ≤ a ∧ a ≤ 400) ∧ ¬ zI ρ 0 76 = 0)) → OO7 (wpX11_run a ρ) σ r 0 (N + 400) True := by
    intro r hC Qr hq
    have f : fr [0] [] ρ (zsI (zsI ρ 0 0 0) 0 0 r) := (fr.rf.ti (by decide)).ti (by decide)
    have R : wpX11_raise r (zsI ρ 0 0 0) (fun (x16 : Int) (σ17 : ZS) => Qr x16 σ17) := hq 0 _ ((hr.read f).mo (by omega)) (hl.r f) (fun _ => ⟨zI_s, fun _ => rfl⟩)
    unfold wpX11_run wpX11_run_17
    rcases hC with ⟨e, no⟩ | ⟨e, ok, nz⟩
    · rw [e] at R
      exact ⟨ha, fun _ => R, fun n => ⟨fun le => absurd ⟨by omega, le⟩ no, fun _ => R⟩⟩
    · rw [e] at R
      exact ⟨ha, fun q => absurd q (by omega), fun _ => ⟨fun _ => ⟨by omega, fun z => absurd z nz, fun _ => R⟩, fun q => absurd ok.2 q⟩⟩
  unfold wpX10_run wpX10_run_12
  refine ⟨ha, fun q => ⟨Or.inl ⟨rfl, bad 1 (Or.inl ⟨rfl, by omega⟩)⟩, h.mo (by omega)⟩, fun n0 => ⟨fun le => ⟨by omega, fun z7 => ?_, fun n7 => ⟨Or.inr ⟨rfl, bad 2 (Or.inr ⟨rfl, by omega, by omega⟩)⟩, h.mo (by omega)⟩⟩, fun gt => ⟨Or.inl ⟨rfl, bad 1 (Or.inl ⟨rfl, by omega⟩)⟩, h.mo (by omega)⟩⟩⟩
  have mvr : MVr P N := by
    refine ⟨fun i i0 i1 => ?_, fun i i0 i1 => ?_, ?_, ?_, ?_, ?_, ?_, fun i i0 i1 => ?_⟩
    · rw [← hR.1 i i0 i1]; exact d1 i i0 i1
    · rw [← hR.2.1 i i0 i1]; exact d2 i i0 i1
    · rw [← hP.2.2.2.2.1]; exact b5
    · rw [← hP.2.2.2.2.2.1]; exact b6
    · rw [← hP.2.2.2.2.2.2.1]; exact b7
    · rw [hi, ← hR.2.1 12 (by decide) (by decide)]; exact d2 12 (by decide) (by decide)
    · rw [← hR.2.2.1]; exact d5
    · rw [← hR.2.2.2 i i0 i1]; exact d3 i i0 i1
  obtain ⟨P', c, d, g1, g2, g3, g4, g5⟩ := go_run (f := a) (by omega) (a - 0).toNat 0 N P rfl (by omega) mvr (by omega) hi
  have g1 : MVr P' (N + 400) := g1.mo (by omega)
  obtain ⟨v1, v2, v3, v4, v5, v6, v7, v8⟩ := id g1
  intro K hK
  refine g4 σ _ K hK hP (fun τ hc kz t8 t7 => ⟨(h.m (M := N + 400) ⟨⟨fun i i0 i1 => ?_, fun i i0 i1 => ?_, fun i i0 i1 => ?_, ?_, ?_, ?_, ?_, ?_, ?_, ?_, ?_⟩, kz.1⟩).1, fun Qr hq => ?_⟩)
  · rw [hc.1 i i0 i1]; exact v1 i i0 i1
  · rw [hc.2.1 i i0 i1]; exact v2 i i0 (by omega)
  · have := v2 (8 + i) (by omega) (by omega)
    rw [hc.2.2.1 i i0 i1]; omega
  · rw [hc.2.2.2.1]; omega
  · rw [hc.2.2.2.2.1]; exact v3
  · rw [hc.2.2.2.2.2.1]; exact v4
  · rw [hc.2.2.2.2.2.2.1]; exact v5
  · rw [t7]; split <;> omega
  · rw [hc.2.2.2.2.2.2.2.1]; exact v7
  · have := kz.2.1; omega
  · have := kz.2.2; omega
  · unfold wpX11_run
    refine ⟨ha, fun q => absurd q (by omega), fun _ => ⟨fun _ => ⟨by omega, fun _ => ?_, fun q => absurd (e7.symm.trans z7) q⟩, fun q => absurd le q⟩⟩
    intro K' hK'
    have f0 : fr RF MR ρ (zsI ρ 0 0 0) := fr.i (by decide)
    refine g5 _ _ K' hK' hR (fun υ hb fz t77 t76 t80 => ?_)
    have f : fr RF MR ρ υ := f0.tr (fz.1.up (by decide) (by decide))
    have z76 : zI (zsI ρ 0 0 0) 0 76 = zI ρ 0 76 := rfl
    have z77 : zI (zsI ρ 0 0 0) 0 77 = zI ρ 0 77 := rfl
    have z80 : zI (zsI ρ 0 0 0) 0 80 = zI ρ 0 80 := rfl
    have z81 : zI (zsI ρ 0 0 0) 0 81 = zI ρ 0 81 := rfl
    have z82 : zI (zsI ρ 0 0 0) 0 82 = zI ρ 0 82 := rfl
    have z83 : zI (zsI ρ 0 0 0) 0 83 = zI ρ 0 83 := rfl
    have z84 : zI (zsI ρ 0 0 0) 0 84 = zI ρ 0 84 := rfl
    have s0 : zI υ 0 0 = 0 := (fz.1.1 0 (by decide)).trans zI_s
    obtain ⟨-, w81, w82, w83, w84⟩ := fz
    rw [z81] at w81
    rw [z82] at w82
    rw [z83] at w83
    rw [z84] at w84
    rw [z80] at t80
    rw [z76] at t76
    rw [z77] at t77
    have mm : MM υ (N + 400) := by
      refine ⟨fun i i0 i1 => ?_, fun i i0 i1 => ?_, fun i i0 i1 => ?_, ?_, ?_, ?_, ?_, ?_, ?_, ?_⟩
      · rw [hb.1 i i0 i1]; exact v1 i i0 i1
      · rw [hb.2.1 i i0 i1]; exact v2 i i0 i1
      · rw [hb.2.2.2 i i0 i1]; exact v8 i i0 i1
      · rw [t76]; split <;> omega
      · rw [hb.2.2.1]; exact v7
      · omega
      · omega
      · omega
      · omega
      · omega
    refine hq c υ ⟨h1.same (f.in (by decide)) (f.an (by decide)), h2.up (f.2 16 (by decide)), h3.up (f.an (by decide)), h4.same (f.in (by decide)) (f.an (by decide)), mm⟩ ⟨hal.k (KC.m kz.1) f (by decide) (by decide) (by decide), hfx.k (KC.m kz.1).2, him.k (kz.1 17 (by decide)) (f.in (by decide)) (f.an (by decide)), P', hc, hb, g2, ?_, ?_⟩ (fun _ => ⟨s0, fun _ => rfl⟩)
    · rw [t7, t76, e7]
    · rw [t8, t77, e8]
theorem k7_image {σ ρ : ZS} {N : Int} (h : CI σ N) (hr : RI ρ N) (hl : Alk7 σ ρ) (hN : 0 ≤ N ∧ N ≤ 100000) {a : Int} (ha : -2147483648 ≤ a ∧ a ≤ 2147483647) : wpX10_image a σ (fun x τ => CI τ (N + 400) ∧ OO7 (wpX11_image a ρ) τ 0 x (N + 400) True) (fun E τ => ((E = xIOB ∧ OO7 (wpX11_image a ρ) τ 1 0 (N + 400) True)) ∧ CI τ (N + 400)) := by
  have i1 := h.2.2.2.2.2.1.2.1
  obtain ⟨-, e1, e2, -⟩ := hl.2.2.1
  have B : ¬ (0 ≤ a ∧ a < zI ρ 0 62) → ((xIOB = xIOB ∧ OO7 (wpX11_image a ρ) σ 1 0 (N + 400) True)) ∧ CI σ (N + 400) := by
    refine fun no => ⟨⟨rfl, fun Qr hq => ?_⟩, h.mo (by omega)⟩
    have f : fr [0] [] ρ (zsI (zsI ρ 0 0 0) 0 0 1) := (fr.rf.ti (by decide)).ti (by decide)
    have R : wpX11_image_17 (zsI ρ 0 0 0) Qr := hq 0 _ ((hr.read f).mo (by omega)) (hl.r f) (fun _ => ⟨zI_s, fun _ => rfl⟩)
    unfold wpX11_image
    exact ⟨ha, fun _ => R, fun n => ⟨by omega, fun lt => absurd ⟨by omega, lt⟩ no, fun _ => R⟩⟩
  unfold wpX10_image wpX10_image_15
  refine ⟨ha, fun q => B (by omega), fun n => ⟨by omega, fun lt => ⟨by omega, h.mo (by omega), fun Qr hq => ?_⟩, fun ge => B (by omega)⟩⟩
  have f : fr [0] [] ρ (zsI ρ 0 0 0) := fr.rf.ti (by decide)
  unfold wpX11_image
  refine ⟨ha, fun q => absurd q n, fun _ => ⟨by omega, fun _ => ⟨by omega, hq _ _ ((hr.read f).mo (by omega)) (hl.r f) (fun _ => ⟨zI_s, fun _ => ?_⟩)⟩, fun q => absurd (by omega) q⟩⟩
  exact (e2 a (by omega) (by omega)).symm
theorem k7_memory {σ ρ : ZS} {N : Int} (h : CI σ N) (hr : RI ρ N) (hl : Alk7 σ ρ) (hN : 0 ≤ N ∧ N ≤ 100000) {a : Int} (ha : -2147483648 ≤ a ∧ a ≤ 2147483647) : wpX10_memory a σ (fun x τ => CI τ (N + 400) ∧ OO7 (wpX11_memory a ρ) τ 0 x (N + 400) True) (fun E τ => ((E = xIAE ∧ OO7 (wpX11_memory a ρ) τ 1 0 (N + 400) True)) ∧ CI τ (N + 400)) := by
  obtain ⟨P, hP, hR, -⟩ := hl.2.2.2
  have B : ¬ (0 ≤ a ∧ a < 4096) → ((xIAE = xIAE ∧ OO7 (wpX11_memory a ρ) σ 1 0 (N + 400) True)) ∧ CI σ (N + 400) := by
    refine fun no => ⟨⟨rfl, fun Qr hq => ?_⟩, h.mo (by omega)⟩
    have f : fr [0] [] ρ (zsI (zsI ρ 0 0 0) 0 0 1) := (fr.rf.ti (by decide)).ti (by decide)
    have R : wpX11_memory_16 (zsI ρ 0 0 0) Qr := hq 0 _ ((hr.read f).mo (by omega)) (hl.r f) (fun _ => ⟨zI_s, fun _ => rfl⟩)
    unfold wpX11_memory
    exact ⟨ha, fun _ => R, fun n => ⟨fun le => absurd ⟨by omega, by omega⟩ no, fun _ => R⟩⟩
  unfold wpX10_memory wpX10_memory_11
  refine ⟨ha, fun q => B (by omega), fun n => ⟨fun lt => ⟨by omega, h.mo (by omega), fun Qr hq => ?_⟩, fun ge => B (by omega)⟩⟩
  have f : fr [0] [] ρ (zsI ρ 0 0 0) := fr.rf.ti (by decide)
  unfold wpX11_memory
  refine ⟨ha, fun q => absurd q n, fun _ => ⟨fun _ => ⟨by omega, hq _ _ ((hr.read f).mo (by omega)) (hl.r f) (fun _ => ⟨zI_s, fun _ => ?_⟩)⟩, fun q => absurd (by omega) q⟩⟩
  rw [hR.1 a (by omega) (by omega), hP.1 a (by omega) (by omega)]
theorem k7_register {σ ρ : ZS} {N : Int} (h : CI σ N) (hr : RI ρ N) (hl : Alk7 σ ρ) (hN : 0 ≤ N ∧ N ≤ 100000) {a : Int} (ha : -2147483648 ≤ a ∧ a ≤ 2147483647) : wpX10_register a σ (fun x τ => CI τ (N + 400) ∧ OO7 (wpX11_register a ρ) τ 0 x (N + 400) True) (fun E τ => ((E = xIAE ∧ OO7 (wpX11_register a ρ) τ 1 0 (N + 400) True)) ∧ CI τ (N + 400)) := by
  obtain ⟨P, hP, hR, hi, -⟩ := hl.2.2.2
  have B : ¬ (0 ≤ a ∧ a ≤ 15) → ((xIAE = xIAE ∧ OO7 (wpX11_register a ρ) σ 1 0 (N + 400) True)) ∧ CI σ (N + 400) := by
    refine fun no => ⟨⟨rfl, fun Qr hq => ?_⟩, h.mo (by omega)⟩
    have f : fr [0] [] ρ (zsI (zsI ρ 0 0 0) 0 0 1) := (fr.rf.ti (by decide)).ti (by decide)
    have R : wpX11_register_15 (zsI ρ 0 0 0) Qr := hq 0 _ ((hr.read f).mo (by omega)) (hl.r f) (fun _ => ⟨zI_s, fun _ => rfl⟩)
    unfold wpX11_register
    exact ⟨ha, fun _ => R, fun n => ⟨fun le => absurd ⟨by omega, by omega⟩ no, fun _ => R⟩⟩
  have G : ∀ x : Int, (0 ≤ a ∧ a ≤ 15) → x = P.r a → CI σ (N + 400) ∧ OO7 (wpX11_register a ρ) σ 0 x (N + 400) True := by
    refine fun x hA ex => ⟨h.mo (by omega), fun Qr hq => ?_⟩
    have f : fr [0] [] ρ (zsI ρ 0 0 0) := fr.rf.ti (by decide)
    unfold wpX11_register
    refine ⟨ha, fun q => absurd q (by omega), fun _ => ⟨fun _ => ⟨by omega, hq _ _ ((hr.read f).mo (by omega)) (hl.r f) (fun _ => ⟨zI_s, fun _ => ?_⟩)⟩, fun q => absurd hA.2 q⟩⟩
    rw [hR.2.1 a (by omega) (by omega), ex]
  unfold wpX10_register wpX10_register_10
  refine ⟨ha, fun q => B (by omega), fun n => ⟨fun le => ⟨fun g8 => ⟨fun g12 => ⟨fun e => G _ (by omega) ?_, fun n12 => ⟨fun e => G _ (by omega) ?_, fun n13 => ⟨fun e => G _ (by omega) ?_, fun n14 => G _ (by omega) ?_⟩⟩⟩, fun l12 => ⟨by omega, G _ (by omega) ?_⟩⟩, fun l8 => ⟨by omega, G _ (by omega) ?_⟩⟩, fun gt => B (by omega)⟩⟩
  · rw [e, hP.2.2.2.1, hi]
  · rw [e]; exact hP.2.2.2.2.1
  · rw [e]; exact hP.2.2.2.2.2.1
  · rw [show a = 15 by omega]; exact hP.2.2.2.2.2.2.1
  · rw [hP.2.2.1 (a - 8) (by omega) (by omega), show 8 + (a - 8) = a by omega]
  · exact hP.2.1 a (by omega) (by omega)
theorem k7_trace {σ ρ : ZS} {N : Int} (h : CI σ N) (hr : RI ρ N) (hl : Alk7 σ ρ) (hN : 0 ≤ N ∧ N ≤ 100000) {a : Int} (ha : -2147483648 ≤ a ∧ a ≤ 2147483647) : wpX10_trace a σ (fun x τ => CI τ (N + 400) ∧ OO7 (wpX11_trace a ρ) τ 0 x (N + 400) True) (fun E τ => ((E = xIOB ∧ OO7 (wpX11_trace a ρ) τ 1 0 (N + 400) True)) ∧ CI τ (N + 400)) := by
  obtain ⟨P, hP, hR, -⟩ := hl.2.2.2
  have c9 := h.2.2.2.2.2.2.2.2.2.2.2.2.2.2.2.1
  have d5 := hr.2.2.2.2.2.2.2.2.1
  have e9 := hP.2.2.2.2.2.2.2.1
  have e78 := hR.2.2.1
  have B : ¬ (0 ≤ a ∧ a < 30 ∧ a < P.n) → ((xIOB = xIOB ∧ OO7 (wpX11_trace a ρ) σ 1 0 (N + 400) True)) ∧ CI σ (N + 400) := by
    refine fun no => ⟨⟨rfl, fun Qr hq => ?_⟩, h.mo (by omega)⟩
    have f : fr [0] [] ρ (zsI (zsI ρ 0 0 0) 0 0 1) := (fr.rf.ti (by decide)).ti (by decide)
    have R : wpX11_trace_23 (zsI ρ 0 0 0) Qr := hq 0 _ ((hr.read f).mo (by omega)) (hl.r f) (fun _ => ⟨zI_s, fun _ => rfl⟩)
    unfold wpX11_trace
    exact ⟨ha, fun _ => R, fun n => ⟨by omega, fun _ => R, fun nle => ⟨fun lt => absurd ⟨by omega, by omega, by omega⟩ no, fun _ => R⟩⟩⟩
  unfold wpX10_trace wpX10_trace_21
  refine ⟨ha, fun q => B (by omega), fun n => ⟨fun ge => B (by omega), fun l30 => ⟨by omega, fun lt => ⟨by omega, h.mo (by omega), fun Qr hq => ?_⟩, fun ge => B (by omega)⟩⟩⟩
  have f : fr [0] [] ρ (zsI ρ 0 0 0) := fr.rf.ti (by decide)
  unfold wpX11_trace
  refine ⟨ha, fun q => absurd q n, fun _ => ⟨by omega, fun q => absurd q (by omega), fun _ => ⟨fun _ => ⟨by omega, hq _ _ ((hr.read f).mo (by omega)) (hl.r f) (fun _ => ⟨zI_s, fun _ => ?_⟩)⟩, fun q => absurd (by omega) q⟩⟩⟩
  rw [hR.2.2.2 a (by omega) (by omega), hP.2.2.2.2.2.2.2.2 a (by omega) (by omega)]
theorem k7_count {σ ρ : ZS} {N : Int} (h : CI σ N) (hr : RI ρ N) (hl : Alk7 σ ρ) (hN : 0 ≤ N ∧ N ≤ 100000) {a : Int} (ha : -2147483648 ≤ a ∧ a ≤ 2147483647) : wpX10_count a σ (fun x τ => CI τ (N + 400) ∧ OO7 (wpX11_count a ρ) τ 0 x (N + 400) False) (fun E τ => ((E = xIAE ∧ OO7 (wpX11_count a ρ) τ 1 0 (N + 400) False)) ∧ CI τ (N + 400)) := by
  have o : ∀ (cd w : Int), OO7 (wpX11_count a ρ) σ cd w (N + 400) False := fun cd w Qr hq => s_count hr.2.2.2.2 hr.2.2.1 ha (fun x τ f => hq x τ ((hr.read f).mo (by omega)) (hl.r f) (fun q => q.elim))
  refine c_count h ha (fun x => ⟨h.mo (by omega), o _ _⟩) ⟨⟨rfl, o _ _⟩, h.mo (by omega)⟩
