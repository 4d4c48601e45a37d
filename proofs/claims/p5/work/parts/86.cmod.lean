/-! C: a module is written -/
def MSg (σ : ZS) (g : Int) : Prop := ∀ s : Int, 0 ≤ s → s < zI σ g 1 → (0 ≤ zA σ g 2 s ∧ zA σ g 2 s ≤ 4398046511103) ∧ al (zA σ g 3 s) ∧ 0 ≤ zA σ g 4 s ∧ 0 ≤ zA σ g 5 s ∧ zA σ g 5 s + zA σ g 4 s ≤ 400
def MBy (σ : ZS) (g : Int) : Prop := ∀ i : Int, 0 ≤ i → i < 400 → 0 ≤ zA σ g 6 i ∧ zA σ g 6 i ≤ 255
def MFx (σ : ZS) (g : Int) : Prop := ∀ k : Int, 0 ≤ k → k < zI σ g 7 → (0 ≤ zA σ g 8 k ∧ zA σ g 8 k ≤ 2) ∧ (0 ≤ zA σ g 9 k ∧ zA σ g 9 k < 24) ∧ (0 ≤ zA σ g 10 k ∧ zA σ g 10 k ≤ 20010) ∧ (-1 ≤ zA σ g 11 k ∧ zA σ g 11 k < 24) ∧ (0 ≤ zA σ g 12 k ∧ zA σ g 12 k ≤ 4398046511103)
def MPb (σ : ZS) (g : Int) : Prop := ∀ q : Int, 0 ≤ q → q < zI σ g 13 → (0 ≤ zA σ g 14 q ∧ zA σ g 14 q ≤ 4398046511103) ∧ (0 ≤ zA σ g 15 q ∧ zA σ g 15 q < 24) ∧ (0 ≤ zA σ g 16 q ∧ zA σ g 16 q ≤ 20000)
def MO (σ : ZS) (g : Int) : Prop := (0 ≤ zI σ g 0 ∧ zI σ g 0 ≤ 1) ∧ (0 ≤ zI σ g 1 ∧ zI σ g 1 ≤ 24) ∧ (0 ≤ zI σ g 7 ∧ zI σ g 7 ≤ 200) ∧ (0 ≤ zI σ g 13 ∧ zI σ g 13 ≤ 24) ∧ MSg σ g ∧ MBy σ g ∧ MFx σ g ∧ MPb σ g
theorem MO.k {σ τ : ZS} {g : Int} (h : MO σ g) (e : ob τ g = ob σ g) : MO τ g := by
  have e1 := ob_I e; have e2 := ob_A e
  unfold MO MSg MBy MFx MPb; simp only [e1, e2]; exact h
theorem m_1 {g : Int} : g ∈ [g] := List.mem_cons_self
theorem n_1 {g a : Int} (h : a ≠ g) : a ∉ [g] := fun q => h (List.mem_singleton.mp q)
theorem c_mclear {g : Int} {σ : ZS} {Q : ZS → Prop} (hg : 0 ≤ g ∧ g ≤ 2) (hQ : ∀ τ : ZS, MO τ g → kp [g] σ τ → zI τ g 0 = 0 → zI τ g 1 = 0 → zI τ g 7 = 0 → zI τ g 13 = 0 → Q τ) : wpX6_clear g σ Q := by
  unfold wpX6_clear
  refine ⟨hg, c_fillM hg (fun h hh => ?_)⟩
  have key : ∀ τ : ZS, kp [g] σ τ → zI τ g 0 = 0 → zI τ g 1 = 0 → zI τ g 7 = 0 → zI τ g 13 = 0 → zA τ g 6 = h → Q τ := by
    intro τ k e0 e1 e7 e13 e6
    refine hQ τ ⟨by omega, by omega, by omega, by omega, fun s s0 s1 => absurd s0 (by omega), fun i i0 i1 => ?_, fun s s0 s1 => absurd s0 (by omega), fun s s0 s1 => absurd s0 (by omega)⟩ k e0 e1 e7 e13
    rw [e6, hh i i0 i1]; decide
  have kk : kp [g] σ (zsF (zsI (zsI (zsI (zsI σ g 0 0) g 1 0) g 7 0) g 13 0) g 6 h) := ((((kp.rf.ti m_1).ti m_1).ti m_1).ti m_1).tf m_1
  obtain rfl | rfl | rfl : g = 0 ∨ g = 1 ∨ g = 2 := by omega
  · exact key _ kk rfl rfl rfl rfl rfl
  · exact key _ kk rfl rfl rfl rfl rfl
  · exact key _ kk rfl rfl rfl rfl rfl
theorem c_addSegment {g w a z st : Int} {σ : ZS} {Q : ZS → Prop} (hg : 0 ≤ g ∧ g ≤ 2) (h : MO σ g) (hlt : zI σ g 1 < 24) (hw : 0 ≤ w ∧ w ≤ 4398046511103) (ha : al a) (hz : 0 ≤ z) (hs0 : zI σ g 1 = 0 → st = 0) (hs1 : 0 < zI σ g 1 → zA σ g 5 (zI σ g 1 - 1) + zA σ g 4 (zI σ g 1 - 1) = st) (h4 : 0 ≤ st ∧ st + z ≤ 400) (hQ : ∀ τ : ZS, MO τ g → kp [g] σ τ → zI τ g 1 = zI σ g 1 + 1 → zA τ g 5 (zI σ g 1) + zA τ g 4 (zI σ g 1) = st + z → Q τ) : wpX6_addSegment g w a z σ Q := by
  obtain ⟨a0, a1, a7, a13, b1, b2, b3, b4⟩ := h
  have key : ∀ τ : ZS, kp [g] σ τ → zI τ g 0 = zI σ g 0 → zI τ g 1 = zI σ g 1 + 1 → zI τ g 7 = zI σ g 7 → zI τ g 13 = zI σ g 13 → zA τ g 2 = zu (zA σ g 2) (zI σ g 1) w → zA τ g 3 = zu (zA σ g 3) (zI σ g 1) a → zA τ g 4 = zu (zA σ g 4) (zI σ g 1) z → zA τ g 5 = zu (zA σ g 5) (zI σ g 1) st → (zA τ g 6 = zA σ g 6 ∧ zA τ g 8 = zA σ g 8 ∧ zA τ g 9 = zA σ g 9 ∧ zA τ g 10 = zA σ g 10 ∧ zA τ g 11 = zA σ g 11 ∧ zA τ g 12 = zA σ g 12 ∧ zA τ g 14 = zA σ g 14 ∧ zA τ g 15 = zA σ g 15 ∧ zA τ g 16 = zA σ g 16) → Q τ := by
    intro τ k e0 e1 e7 e13 f2 f3 f4 f5 ⟨f6, f8, f9, f10, f11, f12, f14, f15, f16⟩
    refine hQ τ ⟨by rw [e0]; exact a0, by omega, by rw [e7]; exact a7, by rw [e13]; exact a13, fun s s0 s1 => ?_, ?_, ?_, ?_⟩ k e1 ?_
    · rw [f2, f3, f4, f5]
      by_cases e : s = zI σ g 1
      · rw [e, pu_eq, pu_eq, pu_eq, pu_eq]; exact ⟨hw, ha, hz, h4.1, h4.2⟩
      · rw [pu_ne e, pu_ne e, pu_ne e, pu_ne e]; exact b1 s s0 (by omega)
    · unfold MBy; rw [f6]; exact b2
    · unfold MFx; rw [e7, f8, f9, f10, f11, f12]; exact b3
    · unfold MPb; rw [e13, f14, f15, f16]; exact b4
    · rw [f4, f5, pu_eq, pu_eq]
  have f44 : ∀ x : Int, x = st → wpX6_addSegment_44 g w a z x σ Q := by
    intro x hx
    rw [hx]
    unfold wpX6_addSegment_44 wpX6_addSegment_96
    refine ⟨hg, by omega, ?_⟩
    have kk : kp [g] σ (zsI (zsA (zsA (zsA (zsA σ g 2 (zI σ g 1) w) g 3 (zI σ g 1) a) g 4 (zI σ g 1) z) g 5 (zI σ g 1) st) g 1 ((zI σ g 1) + 1)) := ((((kp.rf.ta m_1).ta m_1).ta m_1).ta m_1).ti m_1
    clear hQ b1 b2 b3 b4 hs0 hs1
    obtain rfl | rfl | rfl : g = 0 ∨ g = 1 ∨ g = 2 := by omega
    · exact key _ kk rfl rfl rfl rfl rfl rfl rfl rfl ⟨rfl, rfl, rfl, rfl, rfl, rfl, rfl, rfl, rfl⟩
    · exact key _ kk rfl rfl rfl rfl rfl rfl rfl rfl ⟨rfl, rfl, rfl, rfl, rfl, rfl, rfl, rfl, rfl⟩
    · exact key _ kk rfl rfl rfl rfl rfl rfl rfl rfl ⟨rfl, rfl, rfl, rfl, rfl, rfl, rfl, rfl, rfl⟩
  unfold wpX6_addSegment
  exact ⟨hg, by omega, fun q => absurd q (by omega), fun _ => ⟨fun q => f44 0 (hs0 (by omega)).symm, fun q => ⟨by omega, f44 _ (hs1 (by omega))⟩⟩⟩
theorem c_publicNumber {g w : Int} {σ : ZS} {Q : Int → ZS → Prop} (hg : 0 ≤ g ∧ g ≤ 2) (h : MO σ g) (hw : 0 ≤ w ∧ w ≤ 4398046511103) (h1 : ∀ x : Int, 0 ≤ x → x < zI σ g 13 → zA σ g 14 x = w → (∀ q : Int, 0 ≤ q → q < x → zA σ g 14 q ≠ w) → Q x σ) (h0 : (∀ q : Int, 0 ≤ q → q < zI σ g 13 → zA σ g 14 q ≠ w) → Q (-1) σ) : wpX6_publicNumber g w σ Q := by
  obtain ⟨a0, a1, a7, a13, b1, b2, b3, b4⟩ := h
  unfold wpX6_publicNumber wpX6_publicNumber_2
  refine lfp1_ind (fun v _ => (24 - v).toNat) (fun v τ => τ = σ ∧ (0 ≤ v ∧ v ≤ 24) ∧ ∀ q : Int, 0 ≤ q → q < v → zA σ g 14 q ≠ w) (fun K v τ hI ih => ?_) ⟨rfl, by decide, fun q q0 q1 => absurd q0 (by omega)⟩
  obtain ⟨e, hv, hq⟩ := hI
  rw [e]
  unfold wpbX6_publicNumber_2
  refine ⟨hg, by omega, by omega, fun _ => h0 (fun q q0 q1 => hq q q0 (by omega)), fun q => ⟨by omega, ?_, by omega, fun ne => ih _ _ ⟨rfl, by omega, fun j j0 j1 => ?_⟩ (by omega), fun e' => h1 v hv.1 (by omega) e' hq⟩⟩
  · have := (b4 v hv.1 (by omega)).1
    omega
  · by_cases ej : j = v
    · rw [ej]; exact ne
    · exact hq j j0 (by omega)
theorem c_addPublic {g w s o : Int} {σ : ZS} {Q : ZS → Prop} (hg : 0 ≤ g ∧ g ≤ 2) (h : MO σ g) (hw : 0 ≤ w ∧ w ≤ 4398046511103) (hs : 0 ≤ s ∧ s < 24) (ho : 0 ≤ o ∧ o ≤ 20000) (hQ : ∀ τ : ZS, MO τ g → kp [g] σ τ → zI τ g 1 = zI σ g 1 → Q τ) : wpX6_addPublic g w s o σ Q := by
  have h' := h
  obtain ⟨a0, a1, a7, a13, b1, b2, b3, b4⟩ := h'
  have key : ∀ τ : ZS, zI σ g 13 < 24 → kp [g] σ τ → zI τ g 0 = zI σ g 0 → zI τ g 1 = zI σ g 1 → zI τ g 7 = zI σ g 7 → zI τ g 13 = zI σ g 13 + 1 → zA τ g 14 = zu (zA σ g 14) (zI σ g 13) w → zA τ g 15 = zu (zA σ g 15) (zI σ g 13) s → zA τ g 16 = zu (zA σ g 16) (zI σ g 13) o → (zA τ g 6 = zA σ g 6 ∧ zA τ g 8 = zA σ g 8 ∧ zA τ g 9 = zA σ g 9 ∧ zA τ g 10 = zA σ g 10 ∧ zA τ g 11 = zA σ g 11 ∧ zA τ g 12 = zA σ g 12 ∧ zA τ g 2 = zA σ g 2 ∧ zA τ g 3 = zA σ g 3 ∧ zA τ g 4 = zA σ g 4 ∧ zA τ g 5 = zA σ g 5) → Q τ := by
    intro τ lt k e0 e1 e7 e13 f14 f15 f16 ⟨f6, f8, f9, f10, f11, f12, f2, f3, f4, f5⟩
    refine hQ τ ⟨by rw [e0]; exact a0, by rw [e1]; exact a1, by rw [e7]; exact a7, by omega, ?_, ?_, ?_, fun q q0 q1 => ?_⟩ k e1
    · unfold MSg; rw [e1, f2, f3, f4, f5]; exact b1
    · unfold MBy; rw [f6]; exact b2
    · unfold MFx; rw [e7, f8, f9, f10, f11, f12]; exact b3
    · rw [f14, f15, f16]
      by_cases e : q = zI σ g 13
      · rw [e, pu_eq, pu_eq, pu_eq]; exact ⟨hw, hs, ho⟩
      · rw [pu_ne e, pu_ne e, pu_ne e]; exact b4 q q0 (by omega)
  unfold wpX6_addPublic wpX6_addPublic_58
  refine ⟨hg, c_publicNumber hg h hw (fun x x0 x1 _ _ => ⟨by omega, fun _ => hQ σ h kp.rf rfl, fun q => absurd x0 q⟩) (fun _ => ⟨by decide, fun q => absurd q (by decide), fun _ => ⟨by omega, fun _ => hQ σ h kp.rf rfl, fun q => ⟨by omega, ?_⟩⟩⟩)⟩
  have kk : kp [g] σ (zsI (zsA (zsA (zsA σ g 14 (zI σ g 13) w) g 15 (zI σ g 13) s) g 16 (zI σ g 13) o) g 13 ((zI σ g 13) + 1)) := (((kp.rf.ta m_1).ta m_1).ta m_1).ti m_1
  have lt : zI σ g 13 < 24 := by omega
  clear hQ b1 b2 b3 b4 h
  obtain rfl | rfl | rfl : g = 0 ∨ g = 1 ∨ g = 2 := by omega
  · exact key _ lt kk rfl rfl rfl rfl rfl rfl rfl ⟨rfl, rfl, rfl, rfl, rfl, rfl, rfl, rfl, rfl, rfl⟩
  · exact key _ lt kk rfl rfl rfl rfl rfl rfl rfl ⟨rfl, rfl, rfl, rfl, rfl, rfl, rfl, rfl, rfl, rfl⟩
  · exact key _ lt kk rfl rfl rfl rfl rfl rfl rfl ⟨rfl, rfl, rfl, rfl, rfl, rfl, rfl, rfl, rfl, rfl⟩
theorem c_addFixup {g t s p a w : Int} {σ : ZS} {Q : ZS → Prop} (hg : 0 ≤ g ∧ g ≤ 2) (h : MO σ g) (ht : 0 ≤ t ∧ t ≤ 2) (hs : 0 ≤ s ∧ s < 24) (hp : 0 ≤ p ∧ p ≤ 20010) (ha : -1 ≤ a ∧ a < 24) (hw : 0 ≤ w ∧ w ≤ 4398046511103) (hQ : ∀ τ : ZS, MO τ g → kp [g] σ τ → zI τ g 1 = zI σ g 1 → Q τ) : wpX6_addFixup g t s p a w σ Q := by
  have h' := h
  obtain ⟨a0, a1, a7, a13, b1, b2, b3, b4⟩ := h'
  have key : ∀ τ : ZS, zI σ g 7 < 200 → kp [g] σ τ → zI τ g 0 = zI σ g 0 → zI τ g 1 = zI σ g 1 → zI τ g 7 = zI σ g 7 + 1 → zI τ g 13 = zI σ g 13 → zA τ g 8 = zu (zA σ g 8) (zI σ g 7) t → zA τ g 9 = zu (zA σ g 9) (zI σ g 7) s → zA τ g 10 = zu (zA σ g 10) (zI σ g 7) p → zA τ g 11 = zu (zA σ g 11) (zI σ g 7) a → zA τ g 12 = zu (zA σ g 12) (zI σ g 7) w → (zA τ g 6 = zA σ g 6 ∧ zA τ g 14 = zA σ g 14 ∧ zA τ g 15 = zA σ g 15 ∧ zA τ g 16 = zA σ g 16 ∧ zA τ g 2 = zA σ g 2 ∧ zA τ g 3 = zA σ g 3 ∧ zA τ g 4 = zA σ g 4 ∧ zA τ g 5 = zA σ g 5) → Q τ := by
    intro τ lt k e0 e1 e7 e13 f8 f9 f10 f11 f12 ⟨f6, f14, f15, f16, f2, f3, f4, f5⟩
    refine hQ τ ⟨by rw [e0]; exact a0, by rw [e1]; exact a1, by omega, by rw [e13]; exact a13, ?_, ?_, fun q q0 q1 => ?_, ?_⟩ k e1
    · unfold MSg; rw [e1, f2, f3, f4, f5]; exact b1
    · unfold MBy; rw [f6]; exact b2
    · rw [f8, f9, f10, f11, f12]
      by_cases e : q = zI σ g 7
      · rw [e, pu_eq, pu_eq, pu_eq, pu_eq, pu_eq]; exact ⟨ht, hs, hp, ha, hw⟩
      · rw [pu_ne e, pu_ne e, pu_ne e, pu_ne e, pu_ne e]; exact b3 q q0 (by omega)
    · unfold MPb; rw [e13, f14, f15, f16]; exact b4
  unfold wpX6_addFixup wpX6_addFixup_72
  refine ⟨hg, by omega, fun _ => hQ σ h kp.rf rfl, fun q => ⟨by omega, ?_⟩⟩
  have kk : kp [g] σ (zsI (zsA (zsA (zsA (zsA (zsA σ g 8 (zI σ g 7) t) g 9 (zI σ g 7) s) g 10 (zI σ g 7) p) g 11 (zI σ g 7) a) g 12 (zI σ g 7) w) g 7 ((zI σ g 7) + 1)) := (((((kp.rf.ta m_1).ta m_1).ta m_1).ta m_1).ta m_1).ti m_1
  have lt : zI σ g 7 < 200 := by omega
  clear hQ b1 b2 b3 b4 h
  obtain rfl | rfl | rfl : g = 0 ∨ g = 1 ∨ g = 2 := by omega
  · exact key _ lt kk rfl rfl rfl rfl rfl rfl rfl rfl rfl ⟨rfl, rfl, rfl, rfl, rfl, rfl, rfl, rfl⟩
  · exact key _ lt kk rfl rfl rfl rfl rfl rfl rfl rfl rfl ⟨rfl, rfl, rfl, rfl, rfl, rfl, rfl, rfl⟩
  · exact key _ lt kk rfl rfl rfl rfl rfl rfl rfl rfl rfl ⟨rfl, rfl, rfl, rfl, rfl, rfl, rfl, rfl⟩
theorem c_putByte {g s o b : Int} {σ : ZS} {Q : ZS → Prop} (hg : 0 ≤ g ∧ g ≤ 2) (h : MO σ g) (hs : 0 ≤ s ∧ s < 24) (ho : 0 ≤ o ∧ o ≤ 21000) (hQ : ∀ τ : ZS, MO τ g → kp [g] σ τ → zI τ g 1 = zI σ g 1 → Q τ) : wpX6_putByte g s o b σ Q := by
  have h' := h
  obtain ⟨a0, a1, a7, a13, b1, b2, b3, b4⟩ := h'
  have fin : ∀ i : Int, Q (zsA σ g 6 i (b % 256)) := by
    intro i
    refine hQ _ ?_ (kp.a m_1) rfl
    refine ⟨a0, a1, a7, a13, ?_, ?_, ?_, ?_⟩
    · unfold MSg; rw [zA_f (by decide), zA_f (by decide), zA_f (by decide), zA_f (by decide)]; exact b1
    · unfold MBy; rw [zA_s]; exact rng_zu b2 (by omega)
    · unfold MFx; rw [zA_f (by decide), zA_f (by decide), zA_f (by decide), zA_f (by decide), zA_f (by decide)]; exact b3
    · unfold MPb; rw [zA_f (by decide), zA_f (by decide), zA_f (by decide)]; exact b4
  unfold wpX6_putByte wpX6_putByte_40
  refine ⟨hg, by omega, by omega, fun _ => hQ σ h kp.rf rfl, fun q => ?_⟩
  have := b1 s hs.1 (by omega)
  exact ⟨by omega, by omega, fun _ => hQ σ h kp.rf rfl, fun _ => ⟨by omega, fin _⟩⟩
theorem c_putWord {g s o b : Int} {σ : ZS} {Q : ZS → Prop} (hg : 0 ≤ g ∧ g ≤ 2) (h : MO σ g) (hs : 0 ≤ s ∧ s < 24) (ho : 0 ≤ o ∧ o ≤ 20500) (hb : -2147483648 ≤ b ∧ b ≤ 2147483647) (hQ : ∀ τ : ZS, MO τ g → kp [g] σ τ → zI τ g 1 = zI σ g 1 → Q τ) : wpX6_putWord g s o b σ Q := by
  unfold wpX6_putWord
  exact ⟨hg, c_putByte hg h hs (by omega) (fun τ m k e => ⟨hb, c_putByte hg m hs (by omega) (fun υ m2 k2 e2 => hQ υ m2 (k.tr k2) (e2.trans e))⟩)⟩
theorem LZ.k {σ τ : ZS} (h : LZ σ) (e11 : ob τ 11 = ob σ 11) (e13 : ob τ 13 = ob σ 13) (e15 : ob τ 15 = ob σ 15) : LZ τ := by
  have x1 := ob_I e11; have x2 := ob_A e11; have y1 := ob_I e13; have y2 := ob_A e13; have z1 := ob_I e15; have z2 := ob_A e15
  unfold LZ LY NR NS DJ DIw LRg RO SN DS UR
  simp only [x1, x2, y1, y2, z1, z2]
  exact h
theorem LZ.kg {σ τ : ZS} {g : Int} (h : LZ σ) (hg : 0 ≤ g ∧ g ≤ 2) (k : kp [g] σ τ) : LZ τ := h.k (k 11 (n_1 (by omega))) (k 13 (n_1 (by omega))) (k 15 (n_1 (by omega)))
theorem LZ.few {σ : ZS} (h : LZ σ) : zI σ 15 4 ≤ 24 := by
  obtain ⟨⟨a1, a2, a3, a4, a5, a6, a7, a8, a9⟩, hd, hu, hw⟩ := h
  have := pigeon (f := zA σ 15 2) (g := zA σ 11 2) (n := zI σ 15 4) (k := zI σ 11 5) a4.1 a2.1.1 (fun s s0 s1 => ⟨(a9 s s0 s1).1, (a9 s s0 s1).2.2⟩)
  have h25 : ¬ 25 ≤ zI σ 11 5 := fun q => by have := a6 (a2.2.2 q); omega
  omega
/-- names' segments -/
theorem LZ.sg {σ : ZS} {n : Int} (h : LZ σ) (n0 : 0 ≤ n) (n1 : n < zI σ 11 5) : -1 ≤ zA σ 11 2 n ∧ zA σ 11 2 n < 24 := by
  have hf := h.few
  have hs := h.1.2.2.2.1
  obtain ⟨b0, b1, b2, b3⟩ := h.1.2.2.2.2.2.2.2.1 n n0 n1
  have hr := (h.1.1 n n0 (by have := h.1.2.1.1; omega)).2.1
  rcases (by omega : zA σ 11 1 n = 0 ∨ zA σ 11 1 n = 1 ∨ zA σ 11 1 n = 2 ∨ zA σ 11 1 n = 3) with e | e | e | e
  · have := b0 e; omega
  · have := b1 e; omega
  · have := b2 e; omega
  · have := b3 e; omega
/-- one item of a draft -/
theorem c_writeFixup {g i o t : Int} {σ : ZS} {Q : ZS → Prop} (hg : 0 ≤ g ∧ g ≤ 2) (h : LZ σ) (m : MO σ g) (hi : 0 ≤ i ∧ i < zI σ 13 7) (hn : 0 ≤ zA σ 13 2 i) (hs : 0 ≤ zA σ 13 5 i) (ho : 0 ≤ o ∧ o ≤ 20010) (ht : 0 ≤ t ∧ t ≤ 2) (hQ : ∀ τ : ZS, MO τ g → kp [g] σ τ → zI τ g 1 = zI σ g 1 → Q τ) : wpX2_writeFixup g i o t σ Q := by
  have hz := h.1.sz
  have hN := h.1.2.1.1
  have hf := h.few
  have hd := h.2.1 i hi.1 hi.2
  obtain ⟨i1, i2, i3, i4, i5, i6, i7, i8, i9, i10⟩ := h.1.it hi.1 hi.2
  unfold wpX2_writeFixup
  exact ⟨by omega, by omega, hg, c_addFixup hg m ht (by omega) ho (h.sg hn i3.2) (h.1.1 _ hn (by omega)).1 hQ⟩
theorem c_writeOffset {g i o : Int} {σ : ZS} {Q : ZS → Prop} (hg : 0 ≤ g ∧ g ≤ 2) (h : LZ σ) (m : MO σ g) (hi : 0 ≤ i ∧ i < zI σ 13 7) (hn : 0 ≤ zA σ 13 2 i) (hs : 0 ≤ zA σ 13 5 i) (ho : 0 ≤ o ∧ o ≤ 20010) (hQ : ∀ τ : ZS, MO τ g → kp [g] σ τ → zI τ g 1 = zI σ g 1 → Q τ) : wpX2_writeOffset g i o σ Q := by
  have hz := h.1.sz
  have hN := h.1.2.1.1
  have hf := h.few
  have hd := h.2.1 i hi.1 hi.2
  obtain ⟨i1, i2, i3, i4, i5, i6, i7, i8, i9, i10⟩ := h.1.it hi.1 hi.2
  have hr := h.1.1 _ hn (show zA σ 13 2 i < 240 by omega)
  have f39 : ∀ x : Int, (0 ≤ x ∧ x ≤ 20000) → wpX2_writeOffset_39 g i o x σ Q := by
    intro x hx
    unfold wpX2_writeOffset_39
    refine ⟨by omega, hg, c_putWord hg m (by omega) (by omega) (by omega) (fun τ tm tk te => ?_)⟩
    have e13 := tk 13 (n_1 (by omega))
    exact c_writeFixup hg (h.kg hg tk) tm (by rw [ob_I e13 7]; exact hi) (by rw [ob_A e13 2]; exact hn) (by rw [ob_A e13 5]; exact hs) ho (by decide) (fun υ um uk ue => hQ υ um (tk.tr uk) (ue.trans te))
  unfold wpX2_writeOffset
  exact ⟨by omega, by omega, by omega, fun _ => f39 0 (by decide), fun _ => f39 _ hr.2.2.2.2⟩
theorem c_writeNear {g i : Int} {σ : ZS} {Q : ZS → Prop} (hg : 0 ≤ g ∧ g ≤ 2) (h : LZ σ) (m : MO σ g) (hi : 0 ≤ i ∧ i < zI σ 13 7) (hn : 0 ≤ zA σ 13 2 i) (hs : 0 ≤ zA σ 13 5 i) (hQ : ∀ τ : ZS, MO τ g → kp [g] σ τ → zI τ g 1 = zI σ g 1 → Q τ) : wpX2_writeNear g i σ Q := by
  have hz := h.1.sz
  have hf := h.few
  have hd := h.2.1 i hi.1 hi.2
  have h6 := h.1.2.2.1.1.2.2 i hi.1 hi.2
  unfold wpX2_writeNear wpX2_writeNear_50
  exact ⟨by omega, c_isExtern h.1 hi hn (fun x hx => ⟨by omega, fun _ => c_distance h.1 hi hn (fun y hy => ⟨hg, c_putWord hg m (by omega) (by omega) (by omega) hQ⟩), fun _ => c_writeFixup hg h m hi hn hs (by omega) (by decide) hQ⟩)⟩
theorem c_writeItem {g i : Int} {σ : ZS} {Q : ZS → Prop} (hg : 0 ≤ g ∧ g ≤ 2) (h : LZ σ) (m : MO σ g) (hi : 0 ≤ i ∧ i < zI σ 13 7) (hs : 0 ≤ zA σ 13 5 i) (hQ : ∀ τ : ZS, MO τ g → kp [g] σ τ → zI τ g 1 = zI σ g 1 → Q τ) : wpX2_writeItem g i σ Q := by
  have hz := h.1.sz
  have hf := h.few
  have hd := h.2.1 i hi.1 hi.2
  have h6 := h.1.2.2.1.1.2.2 i hi.1 hi.2
  obtain ⟨i1, i2, i3, i4, i5, i6, i7, i8, i9, i10⟩ := h.1.it hi.1 hi.2
  have nx : zA σ 13 0 i ≠ 4 → zA σ 13 0 i ≠ 5 → zA σ 13 0 i ≠ 6 → ∀ τ : ZS, MO τ g → kp [g] σ τ → (LZ τ ∧ (0 ≤ i ∧ i < zI τ 13 7) ∧ 0 ≤ zA τ 13 2 i ∧ 0 ≤ zA τ 13 5 i) := by
    intro q1 q2 q3 τ tm tk
    have e13 := tk 13 (n_1 (by omega))
    exact ⟨h.kg hg tk, by rw [ob_I e13 7]; exact hi, by rw [ob_A e13 2]; exact i6 q1 q2 q3, by rw [ob_A e13 5]; exact hs⟩
  have fj : zA σ 13 0 i = 9 → wpX2_writeJump g i σ Q := by
    intro e
    unfold wpX2_writeJump wpX2_writeJump_77
    refine ⟨by omega, by omega, fun _ => ⟨hg, c_putByte hg m (by omega) (by omega) (fun τ tm tk te => ?_)⟩, fun _ => ⟨hg, c_putByte hg m (by omega) (by omega) (fun τ tm tk te => ?_)⟩⟩
    · obtain ⟨tz, ti, tn, ts⟩ := nx (by omega) (by omega) (by omega) τ tm tk
      exact c_distance tz.1 ti tn (fun y hy => c_putByte hg tm (by omega) (by omega) (fun υ um uk ue => hQ υ um (tk.tr uk) (ue.trans te)))
    · obtain ⟨tz, ti, tn, ts⟩ := nx (by omega) (by omega) (by omega) τ tm tk
      exact c_writeNear hg tz tm ti tn ts (fun υ um uk ue => hQ υ um (tk.tr uk) (ue.trans te))
  unfold wpX2_writeItem wpX2_writeItem_227
  refine ⟨by omega, by omega, fun _ => ⟨hg, c_putByte hg m (by omega) (by omega) hQ⟩, fun n4 => ⟨fun _ => hQ σ m kp.rf rfl, fun n5 => ⟨fun _ => ⟨hg, c_putWord hg m (by omega) (by omega) (by omega) hQ⟩, fun n6 => ?_⟩⟩⟩
  have hn := i6 n4 n5 n6
  refine ⟨fun _ => c_writeOffset hg h m hi hn hs (by omega) hQ, fun _ => ⟨fun _ => c_writeFixup hg h m hi hn hs (by omega) (by decide) hQ, fun _ => ⟨fun e => fj e, fun _ => ⟨fun e => ⟨hg, c_putByte hg m (by omega) (by omega) (fun τ tm tk te => ?_)⟩, fun _ => ⟨fun e => ⟨hg, c_putByte hg m (by omega) (by omega) (fun τ tm tk te => ?_)⟩, fun _ => ⟨fun e => ⟨hg, c_putByte hg m (by omega) (by omega) (fun τ tm tk te => ?_)⟩, fun _ => hQ σ m kp.rf rfl⟩⟩⟩⟩⟩⟩
  · obtain ⟨tz, ti, tn, ts⟩ := nx n4 n5 n6 τ tm tk
    exact c_distance tz.1 ti tn (fun y hy => c_putByte hg tm (by omega) (by omega) (fun υ um uk ue => hQ υ um (tk.tr uk) (ue.trans te)))
  · obtain ⟨tz, ti, tn, ts⟩ := nx n4 n5 n6 τ tm tk
    exact c_writeNear hg tz tm ti tn ts (fun υ um uk ue => hQ υ um (tk.tr uk) (ue.trans te))
  · obtain ⟨tz, ti, tn, ts⟩ := nx n4 n5 n6 τ tm tk
    refine c_writeOffset hg tz tm ti tn ts (by omega) (fun υ um uk ue => ?_)
    obtain ⟨uz, ui, un, us⟩ := nx n4 n5 n6 υ um (tk.tr uk)
    exact c_writeFixup hg uz um ui un us (by omega) (by decide) (fun ω wm wk we => hQ ω wm ((tk.tr uk).tr wk) (we.trans (ue.trans te)))
theorem c_write {g : Int} {σ : ZS} {Q : ZS → Prop} (hg : 0 ≤ g ∧ g ≤ 2) (h : LZ σ) (h4 : psum (zA σ 15 3) (zI σ 15 4).toNat ≤ 400) (hQ : ∀ τ : ZS, MO τ g → kp [g] σ τ → Q τ) : wpX2_write g σ Q := by
  have hf := h.few
  obtain ⟨⟨a1, a2, a3, a4, a5, a6, a7, a8, a9⟩, hd, hu, hw⟩ := h
  have h : LZ σ := ⟨⟨a1, a2, a3, a4, a5, a6, a7, a8, a9⟩, hd, hu, hw⟩
  have nn : ∀ j : Int, 0 ≤ j → j < ((zI σ 15 4).toNat : Int) → 0 ≤ zA σ 15 3 j := fun j j0 j1 => (a7 j j0 (by omega)).2.1
  have pm : ∀ n : Int, 0 ≤ n → n ≤ zI σ 15 4 → 0 ≤ psum (zA σ 15 3) n.toNat ∧ psum (zA σ 15 3) n.toNat ≤ 400 := by
    intro n n0 n1
    have q1 := psum_nn (f := zA σ 15 3) n.toNat (fun j j0 j1 => nn j j0 (by omega))
    have q2 := psum_mono (f := zA σ 15 3) (m := n.toNat) (zI σ 15 4).toNat (by omega) nn
    omega
  have ps : ∀ n : Int, 0 ≤ n → psum (zA σ 15 3) (n + 1).toNat = psum (zA σ 15 3) n.toNat + zA σ 15 3 n := by
    intro n n0
    rw [show (n + 1).toNat = n.toNat + 1 by omega]
    show psum (zA σ 15 3) n.toNat + zA σ 15 3 ((n.toNat : Nat) : Int) = _
    rw [show ((n.toNat : Nat) : Int) = n by omega]
  unfold wpX2_write
  refine ⟨hg, c_mclear hg (fun τ0 m0 k0 e0 e1 e7 e13 => ?_)⟩
  have m1 : MO (zsI τ0 g 0 1) g := by
    obtain ⟨b0, b1, b7, b13, b⟩ := m0
    unfold MO MSg MBy MFx MPb
    rw [zI_s, zI_f (by decide), zI_f (by decide), zI_f (by decide)]
    exact ⟨by decide, b1, b7, b13, b⟩
  have k1 : kp [g] σ (zsI τ0 g 0 1) := k0.ti m_1
  have g1 : zI (zsI τ0 g 0 1) g 1 = 0 := (zI_f (by decide)).trans e1
  -- items
  have f62 : ∀ τ : ZS, MO τ g → kp [g] σ τ → wpX2_write_62 g 0 τ Q := by
    intro τ tm tk
    unfold wpX2_write_62
    refine lfp1_ind (fun v _ => (248 - v).toNat) (fun v υ => MO υ g ∧ kp [g] σ υ ∧ (0 ≤ v ∧ v ≤ zI σ 13 7)) (fun K v υ hI ih => ?_) ⟨tm, tk, by decide, h.1.sz.1⟩
    obtain ⟨um, uk, v0, v1⟩ := hI
    have uz := h.kg hg uk
    have e13 := uk 13 (n_1 (by omega))
    have s7 := ob_I e13 7
    have hz := uz.1.sz
    have hN := uz.1.2.1.1
    unfold wpbX2_write_62 wpX2_write_148
    refine ⟨by omega, by omega, fun _ => hQ υ um uk, fun lt => ?_⟩
    obtain ⟨i1, i2, i3, i4, i5, i6, i7, i8, i9, i10⟩ := uz.1.it v0 (show v < zI υ 13 7 by omega)
    have ud := uz.2.1 v v0 (by omega)
    have us := uz.1.2.2.2.1
    have on : ∀ ω : ZS, MO ω g → kp [g] υ ω → K (v + 1) ω := fun ω wm wk => ih _ _ ⟨wm, uk.tr wk, by omega, by omega⟩ (by omega)
    refine ⟨by omega, by omega, fun _ => ⟨by omega, fun _ => on υ um kp.rf, fun nn => c_writeItem hg uz um ⟨v0, by omega⟩ (by omega) (fun ω wm wk _ => on ω wm wk)⟩, fun e2 => ?_⟩
    have hn := i6 (by omega) (by omega) (by omega)
    have r2 := uz.2.2.1 v v0 (by omega) e2
    have sg := (uz.1.2.2.2.2.2.2.2.1 _ hn i3.2).2.2.1 r2
    have fw := uz.few
    have hr := uz.1.1 _ hn (show zA υ 13 2 v < 240 by omega)
    have ww := uz.2.2.2
    exact ⟨by omega, hg, c_addPublic hg um hr.1 ⟨sg.2.2 ww, by omega⟩ hr.2.2.2.2 (fun ω wm wk _ => on ω wm wk)⟩
  unfold wpX2_write_11
  refine lfp1_ind (fun v _ => (60 - v).toNat) (fun v υ => MO υ g ∧ kp [g] σ υ ∧ zI υ g 1 = v ∧ (0 < v → zA υ g 5 (v - 1) + zA υ g 4 (v - 1) = psum (zA σ 15 3) v.toNat) ∧ (0 ≤ v ∧ v ≤ zI σ 15 4)) (fun K v υ hI ih => ?_) ⟨m1, k1, g1, fun q => absurd q (by decide), by decide, a4.1⟩
  obtain ⟨um, uk, uc, us, v0, v1⟩ := hI
  have e15 := uk 15 (n_1 (by omega))
  have e11 := uk 11 (n_1 (by omega))
  have s4 := ob_I e15 4
  unfold wpbX2_write_11
  refine ⟨by omega, by omega, fun _ => f62 υ um uk, fun lt => ?_⟩
  rw [ob_A e15 2, ob_A e15 3, ob_A e11 0, ob_A e11 3]
  obtain ⟨z1, z2, z3⟩ := a9 v v0 (by omega)
  have hN := a2.1
  have hr := a1 _ z1.1 (show zA σ 15 2 v < 240 by omega)
  have al1 := ((a8 _ z1.1 z1.2).2.1 z2).2.2
  have p1 := pm v v0 (by omega)
  have p2 := pm (v + 1) (by omega) (by omega)
  have p3 := ps v v0
  refine ⟨by omega, by omega, hg, c_addSegment (st := psum (zA σ 15 3) v.toNat) hg um (by omega) hr.1 al1 (a7 v v0 (by omega)).2.1 (fun q => ?_) (fun q => ?_) (by omega) (fun ω wm wk w1 w2 => ih _ _ ⟨wm, uk.tr wk, by omega, fun _ => ?_, by omega, by omega⟩ (by omega))⟩
  · rw [show v = 0 by omega]; rfl
  · rw [uc]; exact us (by omega)
  · rw [uc] at w2
    rw [show v + 1 - 1 = v by omega, p3]; exact w2
