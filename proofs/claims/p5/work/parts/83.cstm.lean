/-! C: statements -/
def PG (σ τ : ZS) : Prop := PS τ ∧ kp [5, 6, 13, 14] σ τ ∧ zI τ 14 5 = zI σ 14 5
theorem PG.rf {σ : ZS} (h : PS σ) : PG σ σ := ⟨h, kp.rf, rfl⟩
theorem PG.tr {σ τ υ : ZS} (h : PG σ τ) (k : PG τ υ) : PG σ υ := ⟨k.1, h.2.1.tr k.2.1, k.2.2.trans h.2.2⟩
theorem PG.on {σ τ : ZS} (h : PG σ τ) (hn : zA τ 12 0 (zI τ 14 4) ≠ 0) : PG σ (zsI τ 14 4 (zI τ 14 4 + 1)) := ⟨h.1.on hn, h.2.1.ti (by decide), h.2.2⟩
theorem PG.o5 {σ τ υ : ZS} (h : PG σ τ) (k : OG 5 τ υ) : PG σ υ := ⟨k.1, h.2.1.tr (k.2.1.up (by decide)), k.2.2.trans h.2.2⟩
theorem PG.o6 {σ τ υ : ZS} (h : PG σ τ) (k : OG 6 τ υ) : PG σ υ := ⟨k.1, h.2.1.tr (k.2.1.up (by decide)), k.2.2.trans h.2.2⟩
theorem PG.ad {σ τ υ : ZS} (h : PG σ τ) (hp : PS υ) (k : kp [13] τ υ) : PG σ υ := ⟨hp, h.2.1.tr (k.up (by decide)), (k.I (by decide) 5).trans h.2.2⟩
theorem c_addValue {g : Int} {σ : ZS} {Q : ZS → Prop} (hg : 5 ≤ g ∧ g ≤ 6) (h : PS σ) (ho : zI σ 14 5 = 1) (hi : OPI σ g) (hQ : ∀ τ : ZS, PS τ → kp [13] σ τ → Q τ) : wpX0_addValue g σ Q := by
  obtain ⟨⟨a1, a2, a3, a4, a5, a6, a7⟩, b⟩ := hi
  have f38 : ∀ s : Int, s = 7 ∨ s = 8 → 0 ≤ zI σ g 3 → wpX0_addValue_38 g s σ Q := by
    intro s hs hn
    unfold wpX0_addValue_38 wpX0_addValue_54
    exact ⟨hg, c_add h ⟨by omega, b, a2, a4, by decide, fun _ _ _ => hn, a3, fun q => absurd q (by omega), fun q => absurd q (by omega), fun q => absurd q (by omega)⟩ (Or.inr (Or.inr (Or.inr ho))) (fun τ p k _ => hQ τ p k)⟩
  unfold wpX0_addValue wpX0_addValue_54
  exact ⟨hg, by have := h.2.2.2.2.2.2; omega, fun n0 => ⟨by omega, fun _ => f38 7 (Or.inl rfl) n0, fun _ => f38 8 (Or.inr rfl) n0⟩, fun _ => c_add h ⟨by decide, b, by have := h.2.2.2.2.2.2; omega, by decide, by decide, fun _ _ q => absurd rfl q, fun q => absurd q (by decide), fun q => absurd q (by decide), fun q => absurd q (by decide), fun q => absurd q (by decide)⟩ (Or.inr (Or.inr (Or.inr ho))) (fun τ p k _ => hQ τ p k)⟩
theorem c_isBare {g : Int} {σ : ZS} {Q : Int → ZS → Prop} (hg : 5 ≤ g ∧ g ≤ 6) (hi : OPB σ g) (hQ : ∀ x : Int, (0 ≤ x ∧ x ≤ 1) → Q x σ) : wpX7_isBare g σ Q := by
  obtain ⟨a1, a2, a3, a4, a5, a6, a7⟩ := hi
  unfold wpX7_isBare wpX7_isBare_18 wpX7_isBare_19
  exact ⟨hg, by omega, fun _ => ⟨by decide, hQ _ (by decide)⟩, fun _ => ⟨by omega, fun _ => ⟨by decide, hQ _ (by decide)⟩, fun _ => ⟨by decide, hQ _ (by decide)⟩⟩⟩
theorem c_mode {g : Int} {σ : ZS} {Q : Int → ZS → Prop} (hg : 5 ≤ g ∧ g ≤ 6) (hi : OPB σ g) (hQ : ∀ x : Int, (0 ≤ x ∧ x ≤ 7) → Q x σ) : wpX7_mode g σ Q := by
  obtain ⟨a1, a2, a3, a4, a5, a6, a7⟩ := hi
  unfold wpX7_mode wpX7_mode_62 wpX7_mode_48 wpX7_mode_25
  exact ⟨hg, by omega, fun _ => ⟨by omega, fun _ => ⟨fun _ => ⟨hg, hQ _ (by omega)⟩, fun _ => ⟨hg, hQ _ (by omega)⟩⟩, fun _ => ⟨fun _ => hQ _ (by decide), fun _ => hQ _ (by decide)⟩⟩, fun _ => ⟨by omega, fun _ => hQ _ (by omega), fun _ => hQ _ (by decide)⟩⟩
theorem c_isShort {a : Int} {σ : ZS} {Q : Int → ZS → Prop} (ha : -2147483648 ≤ a ∧ a ≤ 2147483647) (h1 : -128 ≤ a → a ≤ 127 → Q 1 σ) (h0 : ¬ (-128 ≤ a ∧ a ≤ 127) → Q 0 σ) : wpX2_isShort a σ Q := by
  unfold wpX2_isShort wpX2_isShort_16 wpX2_isShort_17
  exact ⟨ha, fun _ => ⟨by decide, h0 (by omega)⟩, fun _ => ⟨fun _ => ⟨by decide, h0 (by omega)⟩, fun _ => ⟨by decide, h1 (by omega) (by omega)⟩⟩⟩
theorem c_displacementSize {g : Int} {σ : ZS} {Q : Int → ZS → Prop} (hg : 5 ≤ g ∧ g ≤ 6) (hN : zI σ 11 5 ≤ 240) (hi : OPB σ g) (hQ : ∀ x : Int, (0 ≤ x ∧ x ≤ 2) → Q x σ) : wpX7_displacementSize g σ Q := by
  have f36 : ∀ v : Int, (-32768 ≤ v ∧ v ≤ 32767) → wpX7_displacementSize_36 v σ Q := by
    intro v hv
    unfold wpX7_displacementSize_36 wpX7_displacementSize_48
    exact c_isShort (by omega) (fun _ _ => ⟨by decide, fun _ => hQ _ (by decide), fun _ => hQ _ (by decide)⟩) (fun _ => ⟨by decide, fun _ => hQ _ (by decide), fun _ => hQ _ (by decide)⟩)
  have hi' := hi
  obtain ⟨a1, a2, a3, a4, a5, a6, a7⟩ := hi'
  unfold wpX7_displacementSize wpX7_displacementSize_14 wpX7_signedNumber
  exact ⟨hg, c_isBare hg hi (fun x hx => ⟨by omega, fun _ => hQ _ (by decide), fun _ => ⟨by omega, fun _ => ⟨hg, by omega, fun _ => f36 _ (by omega), fun _ => c_mode hg hi (fun y hy => ⟨by omega, fun _ => f36 _ (by omega), fun _ => hQ _ (by decide)⟩)⟩, fun _ => hQ _ (by decide)⟩⟩)⟩
theorem c_addWithM {g a k : Int} {σ : ZS} {Q : ZS → Prop} (hg : 5 ≤ g ∧ g ≤ 6) (h : PS σ) (ho : zI σ 14 5 = 1) (hi : OPI σ g) (hQ : ∀ τ : ZS, PS τ → kp [13] σ τ → Q τ) : wpX0_addWithM a g k σ Q := by
  have n13 : g ∉ [(13 : Int)] := fun q => by have := List.mem_singleton.mp q; omega
  have n11 : (11 : Int) ∉ [(13 : Int)] := by decide
  have n14 : (14 : Int) ∉ [(13 : Int)] := by decide
  unfold wpX0_addWithM
  refine c_addByte h ho (fun τ tp tk => ?_)
  have ti : OPI τ g := hi.k (tk 11 n11) (tk g n13)
  have to_ : zI τ 14 5 = 1 := (tk.I n14 5).trans ho
  have f53 : ∀ v s : Int, (0 ≤ v ∧ v ≤ 2) → wpX0_addWithM_53 g k v s 64 τ Q := by
    intro v s hv
    unfold wpX0_addWithM_53 wpX0_addWithM_95
    refine ⟨hg, c_mode hg ti.1 (fun x hx => c_addByte tp to_ (fun υ up uk => ?_))⟩
    have ui : OPI υ g := ti.k (uk 11 n11) (uk g n13)
    have uo : zI υ 14 5 = 1 := (uk.I n14 5).trans to_
    exact ⟨by omega, fun _ => ⟨fun _ => hQ _ up (tk.tr uk), fun _ => c_addValue hg up uo ui (fun ω wp wk => hQ _ wp ((tk.tr uk).tr wk))⟩, fun _ => c_addByte up uo (fun ω wp wk => hQ _ wp ((tk.tr uk).tr wk))⟩
  refine ⟨hg, by have := ti.1.1; omega, fun _ => ?_, fun _ => c_addByte tp to_ (fun υ up uk => hQ _ up (tk.tr uk))⟩
  exact c_displacementSize hg tp.2.2.2.2.2.2.2 ti.1 (fun x hx => c_isBare hg ti.1 (fun y hy => ⟨by omega, fun _ => f53 _ _ hx, fun _ => f53 _ _ hx⟩))
theorem n_13 {g : Int} (hg : 5 ≤ g ∧ g ≤ 6) : g ∉ [(13 : Int)] := fun q => by have := List.mem_singleton.mp q; omega
theorem c_mov {σ : ZS} {Q : Int → ZS → Prop} (h : PS σ) (ho : zI σ 14 5 = 1) (hQ : ∀ (x : Int) (τ : ZS), (0 ≤ x ∧ x ≤ 1) → PG σ τ → Q x τ) : wpX8_mov σ Q := by
  have f59 : ∀ (v : Int) (τ : ZS), PG σ τ → OPI τ 5 → wpX8_mov_59 v τ Q := by
    intro v τ tg t5
    unfold wpX8_mov_59 wpX8_mov_273 wpX8_mov_203
    refine c_operand (by decide) tg.1 (fun υ ug u6 => ⟨by decide, fun _ => ?_, fun q => absurd q (by decide)⟩) (fun υ ug => ⟨by decide, fun q => absurd rfl q, fun _ => hQ 0 υ (by decide) (tg.o6 ug)⟩)
    have u5 : OPI υ 5 := t5.k (ug.2.1 11 (by decide)) (ug.2.1 5 (by decide))
    have up := tg.o6 ug
    have uo : zI υ 14 5 = 1 := up.2.2.trans ho
    have e1 : ∀ ω : ZS, PS ω → kp [13] υ ω → Q 1 ω := fun ω wp wk => hQ 1 ω (by decide) (up.ad wp wk)
    have e2 : ∀ ω : ZS, PS ω → kp [13] υ ω → wpX0_addValue 6 ω (fun (σ2 : ZS) => Q 1 σ2) := fun ω wp wk => c_addValue (by decide) wp ((wk.I (by decide) 5).trans uo) (u6.k (wk 11 (by decide)) (wk 6 (by decide))) (fun ψ pp pk => hQ 1 ψ (by decide) ((up.ad wp wk).ad pp pk))
    have r5 := u5.1.1
    have r6 := u6.1.1
    exact ⟨by omega, fun _ => ⟨by omega, fun _ => ⟨fun _ => ⟨fun _ => c_addWithM (by decide) ug.1 uo u5 e1, fun _ => c_addWithM (by decide) ug.1 uo u6 e1⟩, fun _ => ⟨fun _ => c_addWithM (by decide) ug.1 uo u5 e2, fun _ => c_addByte ug.1 uo e2⟩⟩, fun _ => c_addWithM (by decide) ug.1 uo u5 e1⟩, fun _ => c_addWithM (by decide) ug.1 uo u6 e1⟩
  unfold wpX8_mov wpX8_mov_22
  refine c_operand (by decide) h (fun τ tg t5 => ⟨by decide, fun q => absurd q (by decide), fun _ => ?_⟩) (fun τ tg => ⟨by decide, fun _ => hQ 0 τ (by decide) ((PG.rf h).o5 tg), fun q => absurd rfl q⟩)
  have tp := (PG.rf h).o5 tg
  refine c_take tg.1 (by decide) (fun e p => ⟨by decide, fun _ => ?_, fun q => absurd q (by decide)⟩) (fun _ => ⟨by decide, fun q => absurd rfl q, fun _ => hQ 0 τ (by decide) tp⟩)
  have up := tp.on (by omega)
  have u5 : OPI (zsI τ 14 4 (zI τ 14 4 + 1)) 5 := t5.k (ob_i (by decide)) (ob_i (by decide))
  have r5 := u5.1.1
  exact ⟨by omega, fun _ => ⟨fun _ => f59 _ _ up u5, fun _ => f59 _ _ up u5⟩, fun _ => f59 _ _ up u5⟩
theorem c_arithmetic {n : Int} {σ : ZS} {Q : Int → ZS → Prop} (h : PS σ) (ho : zI σ 14 5 = 1) (hQ : ∀ (x : Int) (τ : ZS), (0 ≤ x ∧ x ≤ 1) → PG σ τ → Q x τ) : wpX8_arithmetic n σ Q := by
  have f40 : ∀ (v : Int) (τ : ZS), PG σ τ → OPI τ 5 → wpX8_arithmetic_40 n v τ Q := by
    intro v τ tg t5
    unfold wpX8_arithmetic_40 wpX8_arithmetic_156
    refine c_operand (by decide) tg.1 (fun υ ug u6 => ⟨by decide, fun _ => ?_, fun q => absurd q (by decide)⟩) (fun υ ug => ⟨by decide, fun q => absurd rfl q, fun _ => hQ 0 υ (by decide) (tg.o6 ug)⟩)
    have u5 : OPI υ 5 := t5.k (ug.2.1 11 (by decide)) (ug.2.1 5 (by decide))
    have up := tg.o6 ug
    have uo : zI υ 14 5 = 1 := up.2.2.trans ho
    have e1 : ∀ ω : ZS, PS ω → kp [13] υ ω → Q 1 ω := fun ω wp wk => hQ 1 ω (by decide) (up.ad wp wk)
    have e2 : ∀ ω : ZS, PS ω → kp [13] υ ω → wpX0_addValue 6 ω (fun (σ2 : ZS) => Q 1 σ2) := fun ω wp wk => c_addValue (by decide) wp ((wk.I (by decide) 5).trans uo) (u6.k (wk 11 (by decide)) (wk 6 (by decide))) (fun ψ pp pk => hQ 1 ψ (by decide) ((up.ad wp wk).ad pp pk))
    have r5 := u5.1.1
    have r6 := u6.1.1
    exact ⟨by omega, fun _ => ⟨by omega, fun _ => c_addWithM (by decide) ug.1 uo u5 e1, fun _ => c_addWithM (by decide) ug.1 uo u6 e1⟩, fun _ => c_addWithM (by decide) ug.1 uo u5 e2⟩
  unfold wpX8_arithmetic wpX8_arithmetic_21
  refine c_operand (by decide) h (fun τ tg t5 => ⟨by decide, fun q => absurd q (by decide), fun _ => ?_⟩) (fun τ tg => ⟨by decide, fun _ => hQ 0 τ (by decide) ((PG.rf h).o5 tg), fun q => absurd rfl q⟩)
  have tp := (PG.rf h).o5 tg
  refine c_take tg.1 (by decide) (fun e p => ⟨by decide, fun _ => ?_, fun q => absurd q (by decide)⟩) (fun _ => ⟨by decide, fun q => absurd rfl q, fun _ => hQ 0 τ (by decide) tp⟩)
  have up := tp.on (by omega)
  have u5 : OPI (zsI τ 14 4 (zI τ 14 4 + 1)) 5 := t5.k (ob_i (by decide)) (ob_i (by decide))
  have r5 := u5.1.1
  exact ⟨by omega, fun _ => f40 _ _ up u5, fun _ => f40 _ _ up u5⟩
theorem c_onRegister {a b c : Int} {σ : ZS} {Q : Int → ZS → Prop} (h : PS σ) (ho : zI σ 14 5 = 1) (hQ : ∀ (x : Int) (τ : ZS), (0 ≤ x ∧ x ≤ 1) → PG σ τ → Q x τ) : wpX8_onRegister a b c σ Q := by
  unfold wpX8_onRegister wpX8_onRegister_53
  refine c_operand (by decide) h (fun τ tg t5 => ⟨by decide, fun _ => ?_, fun q => absurd q (by decide)⟩) (fun τ tg => ⟨by decide, fun q => absurd rfl q, fun _ => hQ 0 τ (by decide) ((PG.rf h).o5 tg)⟩)
  have tp := (PG.rf h).o5 tg
  have r5 := t5.1.1
  have e1 : ∀ ω : ZS, PS ω → kp [13] τ ω → Q 1 ω := fun ω wp wk => hQ 1 ω (by decide) (tp.ad wp wk)
  exact ⟨by omega, fun _ => c_addByte tg.1 (tp.2.2.trans ho) e1, fun _ => c_addByte tg.1 (tp.2.2.trans ho) e1⟩
theorem c_single {a b : Int} {σ : ZS} {Q : Int → ZS → Prop} (h : PS σ) (ho : zI σ 14 5 = 1) (hQ : ∀ (x : Int) (τ : ZS), (0 ≤ x ∧ x ≤ 1) → PG σ τ → Q x τ) : wpX8_single a b σ Q := by
  unfold wpX8_single
  refine c_operand (by decide) h (fun τ tg t5 => ⟨by decide, fun _ => ?_, fun q => absurd q (by decide)⟩) (fun τ tg => ⟨by decide, fun q => absurd rfl q, fun _ => hQ 0 τ (by decide) ((PG.rf h).o5 tg)⟩)
  have tp := (PG.rf h).o5 tg
  exact c_addWithM (by decide) tg.1 (tp.2.2.trans ho) t5 (fun ω wp wk => hQ 1 ω (by decide) (tp.ad wp wk))
theorem c_named {t v : Int} {σ : ZS} {Q : Int → ZS → Prop} (h : PS σ) (hat1 : t = 10 → 1 ≤ zI σ 14 4) (ht : (1 ≤ t ∧ t ≤ 3) ∨ (9 ≤ t ∧ t ≤ 12)) (hv : 0 ≤ v ∧ v ≤ 65536) (h9 : (t = 9 → v = 2) ∧ (t = 12 → v = 0)) (ho : t = 2 ∨ t = 3 ∨ zI σ 14 5 = 1) (hQ : ∀ (x : Int) (τ : ZS), (0 ≤ x ∧ x ≤ 1) → PG σ τ → Q x τ) : wpX8_named t v σ Q := by
  have hat := h.at
  have hat2 := h.2.2.1
  unfold wpX8_named
  refine c_take h (by decide) (fun e p => ⟨by decide, fun _ => ?_, fun q => absurd q (by decide)⟩) (fun _ => ⟨by decide, fun q => absurd rfl q, fun _ => hQ 0 σ (by decide) (PG.rf h)⟩)
  have tk := h.tk
  obtain ⟨t1, t2, t3, t4⟩ := tk
  have t4' := t4 e
  have up : PG σ (zsI σ 14 4 (zI σ 14 4 + 1)) := (PG.rf h).on (by omega)
  have f34 : ∀ w : Int, (-1 ≤ w ∧ w ≤ 480) → (t = 10 → 0 ≤ w) → wpX8_named_34 t v (zI σ 14 4) w (zsI σ 14 4 (zI σ 14 4 + 1)) Q := by
    intro w hw hw0
    unfold wpX8_named_34
    refine ⟨hat, c_add p ⟨by omega, hv, ⟨?_, ?_⟩, ?_, hw, fun _ _ _ => ?_, fun _ => ?_, fun q => absurd q (by omega), fun q => ?_, fun _ => ⟨fun q => absurd q (by omega), hw0, h9.2⟩⟩ ?_ (fun τ tp tk _ => hQ 1 τ (by decide) (up.ad tp tk))⟩
    · show -1 ≤ zA σ 12 1 (zI σ 14 4)
      omega
    · exact t4'
    · show -1 ≤ zA σ 12 2 (zI σ 14 4) ∧ zA σ 12 2 (zI σ 14 4) ≤ 480
      omega
    · exact t2.1
    · exact t3.1
    · have := h9.1 q; omega
    · exact Or.inr ho
  refine ⟨by omega, fun q => f34 (-1) (by decide) (fun e10 => by have := hat1 e10; omega), fun q => ?_⟩
  have pl := (h.1.2 (zI σ 14 4 - 1) (by omega) (by omega)).2.2.1
  refine ⟨by omega, f34 _ ?_ (fun _ => ?_)⟩
  · show -1 ≤ zA σ 12 2 (zI σ 14 4 - 1) ∧ zA σ 12 2 (zI σ 14 4 - 1) ≤ 480
    omega
  · show 0 ≤ zA σ 12 2 (zI σ 14 4 - 1)
    omega
theorem c_numbered {t l : Int} {σ : ZS} {Q : Int → ZS → Prop} (h : PS σ) (ht : (t = 4 ∧ l = 256) ∨ (t = 5 ∧ l = 65)) (ho : zI σ 14 5 = 1) (hQ : ∀ (x : Int) (τ : ZS), (0 ≤ x ∧ x ≤ 1) → PG σ τ → Q x τ) : wpX8_numbered t l σ Q := by
  have tk := h.tk
  obtain ⟨t1, t2, t3, t4⟩ := tk
  have hN := h.2.2.2.2.2.2
  unfold wpX8_numbered wpX8_numbered_16
  refine c_type h ⟨by omega, fun _ => hQ 0 σ (by decide) (PG.rf h), fun e2 => c_value h ⟨by omega, by omega, fun lt => c_value h ?_, fun _ => hQ 0 σ (by decide) (PG.rf h)⟩⟩
  refine c_add h ⟨by omega, t2, by omega, by decide, by decide, fun q1 q2 => absurd ht (by omega), fun q => absurd q (by decide), fun q => by omega, fun q => absurd q (by omega), fun q => absurd q (by omega)⟩ (Or.inr (Or.inr (Or.inr ho))) (fun τ tp tk _ => hQ 1 _ (by decide) (((PG.rf h).ad tp tk).on ?_))
  rw [tk.A (by decide) 0, tk.I (by decide) 4]; omega
theorem c_words {σ : ZS} {Q : Int → ZS → Prop} (h : PS σ) (ho : zI σ 14 5 = 1) (hQ : ∀ (x : Int) (τ : ZS), (0 ≤ x ∧ x ≤ 1) → PG σ τ → Q x τ) : wpX8_words σ Q := by
  unfold wpX8_words wpX8_words_2
  refine lfp1_ind (fun v _ => (481 - v).toNat) (fun v τ => PG σ τ ∧ (0 ≤ v ∧ v ≤ 481)) (fun K v τ hI ih => ?_) ⟨PG.rf h, by decide⟩
  obtain ⟨tg, v0⟩ := hI
  have hz := tg.1.1.1
  unfold wpbX8_words_2
  refine ⟨by omega, by omega, fun _ => hQ 0 τ (by decide) tg, fun a => c_operand (by decide) tg.1 (fun υ ug u5 => ⟨by decide, fun _ => ?_, fun q => absurd q (by decide)⟩) (fun υ ug => ⟨by decide, fun q => absurd rfl q, fun _ => hQ 0 υ (by decide) (tg.o5 ug)⟩)⟩
  have up := tg.o5 ug
  refine c_addValue (by decide) ug.1 (up.2.2.trans ho) u5 (fun ω wp wk => ?_)
  have wg := up.ad wp wk
  exact c_take wp (by decide) (fun e p => ⟨by decide, fun _ => ih _ _ ⟨wg.on (by omega), by omega⟩ (by omega), fun q => absurd q (by decide)⟩) (fun _ => ⟨by decide, fun q => absurd rfl q, fun _ => hQ 1 ω (by decide) wg⟩)
theorem c_bytes {σ : ZS} {Q : Int → ZS → Prop} (h : PS σ) (ho : zI σ 14 5 = 1) (hQ : ∀ (x : Int) (τ : ZS), (0 ≤ x ∧ x ≤ 1) → PG σ τ → Q x τ) : wpX8_bytes σ Q := by
  unfold wpX8_bytes wpX8_bytes_2
  refine lfp1_ind (fun v _ => (481 - v).toNat) (fun v τ => PG σ τ ∧ (0 ≤ v ∧ v ≤ 481)) (fun K v τ hI ih => ?_) ⟨PG.rf h, by decide⟩
  obtain ⟨tg, v0⟩ := hI
  have hz := tg.1.1.1
  unfold wpbX8_bytes_2
  refine ⟨by omega, by omega, fun _ => hQ 0 τ (by decide) tg, fun a => c_numbered tg.1 (Or.inl ⟨rfl, rfl⟩) (tg.2.2.trans ho) (fun x ω hx wg => ⟨by omega, fun _ => ?_, fun _ => hQ 0 ω (by decide) (tg.tr wg)⟩)⟩
  have wg' := tg.tr wg
  exact c_take wg.1 (by decide) (fun e p => ⟨by decide, fun _ => ih _ _ ⟨wg'.on (by omega), by omega⟩ (by omega), fun q => absurd q (by decide)⟩) (fun _ => ⟨by decide, fun q => absurd rfl q, fun _ => hQ 1 ω (by decide) wg'⟩)
theorem c_bitCount {a : Int} {σ : ZS} {Q : Int → ZS → Prop} (ha : 1 ≤ a ∧ a ≤ 16) (h1 : ∀ x : Int, (-2147483648 ≤ x ∧ x ≤ 2147483647) → (x = 1 → al a) → (al a → x = 1) → Q x σ) : wpJ6_bitCount_0f7a4 a σ Q := by
  unfold wpJ6_bitCount_0f7a4
  have hc : a = 1 ∨ a = 2 ∨ a = 3 ∨ a = 4 ∨ a = 5 ∨ a = 6 ∨ a = 7 ∨ a = 8 ∨ a = 9 ∨ a = 10 ∨ a = 11 ∨ a = 12 ∨ a = 13 ∨ a = 14 ∨ a = 15 ∨ a = 16 := by omega
  rcases hc with rfl | rfl | rfl | rfl | rfl | rfl | rfl | rfl | rfl | rfl | rfl | rfl | rfl | rfl | rfl | rfl <;> exact ⟨by decide, by decide, by decide, by decide, by decide, h1 _ (by decide) (by unfold al; decide) (by unfold al; decide)⟩
theorem c_isAlign {a : Int} {σ : ZS} {Q : Int → ZS → Prop} (ha : 0 ≤ a ∧ a ≤ 65536) (h1 : al a → Q 1 σ) (h0 : ¬ al a → Q 0 σ) : wpX8_isAlign a σ Q := by
  unfold wpX8_isAlign wpX8_isAlign_23 wpX8_isAlign_24
  exact ⟨by omega, fun _ => ⟨by decide, h0 (by unfold al; omega)⟩, fun _ => ⟨fun _ => ⟨by decide, h0 (by unfold al; omega)⟩, fun _ => c_bitCount (by omega) (fun x hx q1 q2 => ⟨hx, fun n => ⟨by decide, h0 (fun q => n (q2 q))⟩, fun e => ⟨by decide, h1 (q1 e)⟩⟩)⟩⟩
theorem PS.op {σ : ZS} (h : PS σ) (ho : zI σ 13 7 = 248 ∨ ∃ j : Int, 0 ≤ j ∧ j < zI σ 13 7 ∧ zA σ 13 0 j = 0) : PS (zsI σ 14 5 1) := by
  obtain ⟨h1, h2, h3, h4, h5, ⟨o1, o2⟩, h7⟩ := h
  exact ⟨h1.k (ob_i (by decide)) (ob_i (by decide)), h2, h3, (show (0 : Int) ≤ 1 ∧ (1 : Int) ≤ 1 by decide), h5.k (ob_i (by decide)) (ob_i (by decide)), ⟨o1, fun _ => ho⟩, h7⟩
theorem c_seg {σ : ZS} {Q : Int → ZS → Prop} (h : PS σ) (hQ : ∀ (x : Int) (τ : ZS), (0 ≤ x ∧ x ≤ 1) → PS τ → kp [5, 6, 13, 14] σ τ → Q x τ) : wpX8_seg σ Q := by
  unfold wpX8_seg wpX8_seg_33
  have tk := h.tk
  obtain ⟨t1, t2, t3, t4⟩ := tk
  refine c_take h (by decide) (fun e p => ⟨by decide, fun _ => ?_, fun q => absurd q (by decide)⟩) (fun _ => ⟨by decide, fun q => absurd rfl q, fun _ => hQ 0 σ (by decide) h kp.rf⟩)
  have t4' := t4 e
  have k1 : kp [5, 6, 13, 14] σ (zsI σ 14 4 (zI σ 14 4 + 1)) := kp.i (by decide)
  have tk' := p.tk
  have q0 : Q 0 (zsI σ 14 4 (zI σ 14 4 + 1)) := hQ 0 _ (by decide) p k1
  refine c_type p ⟨by have := tk'.1; omega, fun _ => q0, fun e2 => c_value p (c_isAlign tk'.2.1 (fun a => ⟨by decide, fun _ => c_value p ?_, fun q => absurd q (by decide)⟩) (fun _ => ⟨by decide, fun q => absurd rfl q, fun _ => q0⟩))⟩
  unfold wpX8_addNamed
  refine ⟨h.at, c_add p ⟨by decide, tk'.2.1, ⟨?_, t4'⟩, ?_, by decide, fun _ _ _ => t2.1, fun _ => t3.1, fun q => absurd q (by decide), fun q => absurd q (by decide), fun _ => ⟨fun _ => a, fun q => absurd q (by decide), fun q => absurd q (by decide)⟩⟩ (Or.inl rfl) (fun τ tp tk ex => ?_)⟩
  · show -1 ≤ zA σ 12 1 (zI σ 14 4)
    omega
  · show -1 ≤ zA σ 12 2 (zI σ 14 4) ∧ zA σ 12 2 (zI σ 14 4) ≤ 480
    omega
  · have on := tp.on (by rw [tk.A (by decide) 0, tk.I (by decide) 4]; omega)
    exact hQ 1 _ (by decide) (on.op ex) (((k1.tr (tk.up (by decide))).ti (by decide)).ti (by decide))
theorem c_label {σ : ZS} {Q : Int → ZS → Prop} (h : PS σ) (hn : zA σ 12 0 (zI σ 14 4) = 3) (hQ : ∀ (x : Int) (τ : ZS), (0 ≤ x ∧ x ≤ 1) → PG σ τ → Q x τ) : wpX8_label σ Q := by
  have o := h.2.2.2.1
  have tk := h.tk
  obtain ⟨t1, t2, t3, t4⟩ := tk
  have t4' := t4 hn
  have on : PG σ (zsI σ 14 4 (zI σ 14 4 + 1)) := (PG.rf h).on (by omega)
  unfold wpX8_label wpX8_addNamed
  refine ⟨by omega, fun n0 => c_take on.1 (by decide) (fun e p => ⟨by decide, fun _ => ⟨h.at, ?_⟩, fun q => absurd q (by decide)⟩) (fun _ => ⟨by decide, fun q => absurd rfl q, fun _ => hQ 0 _ (by decide) on⟩), fun _ => hQ 0 σ (by decide) (PG.rf h)⟩
  have on2 := on.on (by omega)
  refine c_add on2.1 ⟨by decide, by decide, ⟨?_, t4'⟩, ?_, by decide, fun _ _ _ => t2.1, fun _ => t3.1, fun q => absurd q (by decide), fun q => absurd q (by decide), fun q => absurd q (by decide)⟩ (Or.inr (Or.inr (Or.inr ?_))) (fun τ tp tk _ => hQ 1 τ (by decide) (on2.ad tp tk))
  · show -1 ≤ zA σ 12 1 (zI σ 14 4)
    omega
  · show -1 ≤ zA σ 12 2 (zI σ 14 4) ∧ zA σ 12 2 (zI σ 14 4) ≤ 480
    omega
  · show zI σ 14 5 = 1
    omega
theorem c_directive {f : Int} {σ : ZS} {Q : Int → ZS → Prop} (h : PS σ) (hn : zA σ 12 0 (zI σ 14 4) ≠ 0) (hf : 0 ≤ f ∧ f ≤ 5) (ho : 3 ≤ f → zI σ 14 5 = 1) (hQ : ∀ (x : Int) (τ : ZS), (0 ≤ x ∧ x ≤ 1) → PS τ → kp [5, 6, 13, 14] σ τ → Q x τ) : wpX8_directive f σ Q := by
  have on : PG σ (zsI σ 14 4 (zI σ 14 4 + 1)) := (PG.rf h).on hn
  have fin : ∀ (x : Int) (τ : ZS), (0 ≤ x ∧ x ≤ 1) → PG (zsI σ 14 4 (zI σ 14 4 + 1)) τ → (0 ≤ x ∧ x ≤ 1) ∧ Q x τ := fun x τ hx tg => ⟨hx, hQ x τ hx tg.1 (on.2.1.tr tg.2.1)⟩
  unfold wpX8_directive
  exact ⟨by omega, fun _ => c_seg on.1 (fun x τ hx tp tk => ⟨hx, hQ x τ hx tp (on.2.1.tr tk)⟩), fun _ => ⟨fun _ => c_named on.1 (fun q => absurd q (by decide)) (by decide) (by decide) ⟨fun q => absurd q (by decide), fun q => absurd q (by decide)⟩ (Or.inl rfl) fin, fun _ => ⟨fun _ => c_named on.1 (fun q => absurd q (by decide)) (by decide) (by decide) ⟨fun q => absurd q (by decide), fun q => absurd q (by decide)⟩ (Or.inr (Or.inl rfl)) fin, fun _ => ⟨fun _ => c_words on.1 (ho (by omega)) fin, fun _ => ⟨fun _ => c_bytes on.1 (ho (by omega)) fin, fun _ => c_numbered on.1 (Or.inr ⟨rfl, rfl⟩) (ho (by omega)) fin⟩⟩⟩⟩⟩
theorem c_instruction {f c : Int} {σ : ZS} {Q : Int → ZS → Prop} (h : PS σ) (hn : zA σ 12 0 (zI σ 14 4) ≠ 0) (hf : 0 ≤ f ∧ f ≤ 17) (hc : 0 ≤ c ∧ c ≤ 65536) (ho : zI σ 14 5 = 1) (hQ : ∀ (x : Int) (τ : ZS), (0 ≤ x ∧ x ≤ 1) → PG σ τ → Q x τ) : wpX8_instruction f c σ Q := by
  have on : PG σ (zsI σ 14 4 (zI σ 14 4 + 1)) := (PG.rf h).on hn
  have oo : zI (zsI σ 14 4 (zI σ 14 4 + 1)) 14 5 = 1 := ho
  have oa : 1 ≤ zI (zsI σ 14 4 (zI σ 14 4 + 1)) 14 4 := by
    rw [zI_s]
    have := h.2.2.1
    omega
  have fin : ∀ (x : Int) (τ : ZS), (0 ≤ x ∧ x ≤ 1) → PG (zsI σ 14 4 (zI σ 14 4 + 1)) τ → (0 ≤ x ∧ x ≤ 1) ∧ Q x τ := fun x τ hx tg => ⟨hx, hQ x τ hx (on.tr tg)⟩
  have f174 : wpX8_instruction_174 c (zsI σ 14 4 (zI σ 14 4 + 1)) Q := by
    unfold wpX8_instruction_174
    exact c_addByte on.1 oo (fun τ tp tk => hQ 1 τ (by decide) (on.ad tp tk))
  unfold wpX8_instruction
  refine ⟨by omega, fun _ => c_mov on.1 oo fin, fun _ => ⟨fun _ => c_arithmetic on.1 oo fin, fun _ => ⟨fun _ => c_onRegister on.1 oo fin, fun _ => ⟨fun _ => c_onRegister on.1 oo fin, fun _ => ⟨fun _ => c_onRegister on.1 oo fin, fun _ => ⟨fun _ => ⟨by omega, c_single on.1 oo fin⟩, fun _ => ⟨fun _ => c_named on.1 (fun q => absurd q (by decide)) (by decide) (by decide) ⟨fun _ => rfl, fun q => absurd q (by decide)⟩ (Or.inr (Or.inr oo)) fin, fun _ => ⟨fun _ => c_named on.1 (fun _ => oa) (by decide) hc ⟨fun q => absurd q (by decide), fun q => absurd q (by decide)⟩ (Or.inr (Or.inr oo)) fin, fun _ => ⟨fun _ => c_named on.1 (fun q => absurd q (by decide)) (by decide) (by decide) ⟨fun q => absurd q (by decide), fun _ => rfl⟩ (Or.inr (Or.inr oo)) fin, fun _ => ⟨fun _ => c_named on.1 (fun q => absurd q (by decide)) (by decide) (by decide) ⟨fun q => absurd q (by decide), fun _ => rfl⟩ (Or.inr (Or.inr oo)) fin, fun _ => ⟨fun _ => f174, fun _ => ⟨fun _ => c_addByte on.1 oo (fun τ tp tk => ?_), fun _ => f174⟩⟩⟩⟩⟩⟩⟩⟩⟩⟩⟩⟩
  have og := on.ad tp tk
  exact c_numbered tp (Or.inl ⟨rfl, rfl⟩) (og.2.2.trans ho) (fun x υ hx ug => ⟨hx, hQ x υ hx (og.tr ug)⟩)
theorem zform_bd {i : Int} (h : 0 ≤ i ∧ i < 36) : 0 ≤ zform i ∧ zform i ≤ 17 := by
  have key : ∀ n : Nat, n < 36 → 0 ≤ zFORM.getD n 0 ∧ zFORM.getD n 0 ≤ 17 := by decide
  exact key i.toNat (by omega)
theorem zcode_bd {i : Int} (h : 0 ≤ i ∧ i < 36) : 0 ≤ zcode i ∧ zcode i ≤ 65536 := by
  have key : ∀ n : Nat, n < 36 → 0 ≤ zCODE.getD n 0 ∧ zCODE.getD n 0 ≤ 65536 := by decide
  exact key i.toNat (by omega)
theorem c_mayStand {a : Int} {σ : ZS} {Q : Int → ZS → Prop} (h : PS σ) (ha : 0 ≤ a ∧ a ≤ 65536) (h1 : a < 36 → (zI σ 14 5 = 1 ∨ zform a ≤ 2) → Q 1 σ) (h0 : Q 0 σ) : wpX8_mayStand a σ Q := by
  have o := h.2.2.2.1
  unfold wpX8_mayStand wpX8_mayStand_28 wpX8_mayStand_32 wpX8_mayStand_33
  refine ⟨by omega, fun _ => ⟨by decide, h0⟩, fun _ => ⟨fun _ => ⟨by decide, h0⟩, fun lt => ⟨by omega, fun _ => ⟨by decide, h1 (by omega) (Or.inl (by omega))⟩, fun _ => ⟨by omega, ?_, fun _ => ⟨by decide, h0⟩, fun q => ⟨by decide, h1 (by omega) (Or.inr (by omega))⟩⟩⟩⟩⟩
  have := zform_bd (i := a) (by omega)
  omega
theorem c_parse {σ : ZS} {Q : Int → ZS → Prop} (hR : RD σ) (he : 1 ≤ zI σ 12 3 ∧ zA σ 12 0 (zI σ 12 3 - 1) = 0) (hQ : ∀ (x : Int) (τ : ZS), PS τ → kp [5, 6, 13, 14] σ τ → (-1 ≤ x ∧ x ≤ 480) → Q x τ) : wpX8_parse σ Q := by
  obtain ⟨rS, rR, rF, rT⟩ := hR
  unfold wpX8_parse wpX8_parse_20
  refine lfp1_ind (fun v _ => (481 - v).toNat) (fun v τ => PS τ ∧ kp [5, 6, 13, 14] σ τ ∧ (0 ≤ v ∧ v ≤ 481)) (fun K v τ hI ih => ?_) ⟨⟨?_, he, ?_, ?_, ⟨?_, fun i i0 i1 => ?_, fun i i0 i1 => ?_⟩, ⟨fun i i0 i1 => ?_, fun q => absurd rfl q⟩, rS.1⟩, ((kp.rf.ti (by decide)).ti (by decide)).ti (by decide), by decide⟩
  · obtain ⟨tp, tk, v0⟩ := hI
    have hz := tp.1.1
    have f146 : ∀ υ : ZS, PS υ → kp [5, 6, 13, 14] τ υ → wpX8_parse_146 υ Q := fun υ up uk => ⟨up.at, hQ _ υ up (tk.tr uk) (by have := up.tk.2.2.1; omega)⟩
    have f133 : ∀ (s : Int) (υ : ZS), v < zI τ 12 3 → (0 ≤ s ∧ s ≤ 1) → PS υ → kp [5, 6, 13, 14] τ υ → wpX8_parse_133 K v s υ Q := by
      intro s υ hv hs up uk
      unfold wpX8_parse_133
      exact ⟨by omega, fun _ => f146 υ up uk, fun _ => c_take up (by decide) (fun e p => ⟨by decide, fun _ => ih _ _ ⟨p, (tk.tr uk).ti (by decide), by omega⟩ (by omega), fun q => absurd q (by decide)⟩) (fun _ => ⟨by decide, fun q => absurd rfl q, fun _ => f146 υ up uk⟩)⟩
    have f58 : ∀ (s : Int) (υ : ZS), v < zI τ 12 3 → (0 ≤ s ∧ s ≤ 1) → PS υ → kp [5, 6, 13, 14] τ υ → wpX8_parse_58 K v s υ Q := by
      intro s υ hv hs up uk
      have ut := up.tk
      have fin : ∀ (x : Int) (ω : ZS), (0 ≤ x ∧ x ≤ 1) → PS ω → kp [5, 6, 13, 14] υ ω → (-2147483648 ≤ x ∧ x ≤ 2147483647) ∧ (x = 0 → wpX8_parse_131 K v ω Q) ∧ (¬ x = 0 → wpX8_parse_127 K v ω Q) := by
        intro x ω hx wp wk
        unfold wpX8_parse_131 wpX8_parse_127 wpX8_parse_132
        exact ⟨by omega, fun _ => f133 0 ω hv (by decide) wp (uk.tr wk), fun _ => f133 1 ω hv (by decide) wp (uk.tr wk)⟩
      unfold wpX8_parse_58
      refine ⟨by omega, fun _ => f133 s υ hv hs up uk, fun _ => c_type up ⟨by have := ut.1; omega, fun _ => f133 s υ hv hs up uk, fun e6 => c_value up (c_mayStand up ut.2.1 (fun lt o => ⟨by decide, fun q => absurd q (by decide), fun _ => ⟨?_, ?_, fun f6 => ?_, fun f5 => ?_⟩⟩) ⟨by decide, fun _ => (fin 0 υ (by decide) up kp.rf).2.1 rfl, fun q => absurd rfl q⟩)⟩⟩
      · have := ut.2.1; omega
      · have := zform_bd (i := zA υ 12 1 (zI υ 14 4)) ⟨ut.2.1.1, lt⟩; omega
      · have b := zform_bd (i := zA υ 12 1 (zI υ 14 4)) ⟨ut.2.1.1, lt⟩
        exact c_instruction up (by omega) b (zcode_bd ⟨ut.2.1.1, lt⟩) (by omega) (fun x ω hx wg => fin x ω hx wg.1 wg.2.1)
      · have b := zform_bd (i := zA υ 12 1 (zI υ 14 4)) ⟨ut.2.1.1, lt⟩
        exact c_directive up (by omega) (by omega) (fun q => by omega) fin
    have tt := tp.tk
    unfold wpbX8_parse_20 wpX8_parse_165 wpX8_parse_53
    refine ⟨by omega, by omega, fun _ => hQ _ τ tp tk (by decide), fun a => c_type tp ⟨by have := tt.1; omega, fun _ => hQ _ τ tp tk (by decide), fun n0 => c_type tp ⟨by have := tt.1; omega, fun _ => f58 1 τ (by omega) (by decide) tp kp.rf, fun e3 => c_label tp e3 (fun x ω hx wg => ⟨by omega, fun _ => f58 0 ω (by omega) (by decide) wg.1 wg.2.1, fun _ => f58 1 ω (by omega) (by decide) wg.1 wg.2.1⟩)⟩⟩⟩
  · exact rT.k (((ob_i (by decide)).trans (ob_i (by decide))).trans (ob_i (by decide))) (((ob_i (by decide)).trans (ob_i (by decide))).trans (ob_i (by decide)))
  · show (0 : Int) ≤ 0 ∧ (0 : Int) ≤ zI σ 12 3 - 1
    omega
  · show (0 : Int) ≤ 0 ∧ (0 : Int) ≤ 1
    decide
  · show (0 : Int) ≤ 0 ∧ (0 : Int) ≤ 248
    decide
  · have i1' : i < 0 := i1
    omega
  · have i1' : i < 0 := i1
    omega
  · have i1' : i < 0 := i1
    omega
